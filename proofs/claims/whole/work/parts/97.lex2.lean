noncomputable section
set_option maxRecDepth 20000
/-! the reference's tokens -/
def pkv (a : Int → Int) (k : Int) : Int := it (fun j w => w * 256 + a j) 0 k
theorem pk_s {a : Int → Int} {k : Int} (k0 : 0 ≤ k) : pkv a (k + 1) = pkv a k * 256 + a k := it_s _ _ k0
theorem pk_b {a : Int → Int} {k : Int} (k0 : 0 ≤ k) (h : ∀ j, 0 ≤ j → j < k → 1 ≤ a j ∧ a j < 256) : 0 ≤ pkv a k ∧ (0 < k → 0 < pkv a k) := by
  have key : ∀ n : Nat, (n : Int) ≤ k → 0 ≤ pkv a n ∧ (0 < (n : Int) → 0 < pkv a n) := by
    intro n
    induction n with
    | zero => intro _; exact ⟨Int.le_refl _, fun q => absurd q (by decide)⟩
    | succ n ih =>
      intro hn
      rw [show ((n + 1 : Nat) : Int) = (n : Int) + 1 from by omega, pk_s (by omega)]
      have := ih (by omega)
      have := h n (by omega) (by omega)
      omega
  have := key k.toNat (by omega)
  rw [show ((k.toNat : Nat) : Int) = k from by omega] at this
  exact this
theorem pk_i {a b : Int → Int} : ∀ (k m : Nat), (∀ j : Int, 0 ≤ j → j < k → 1 ≤ a j ∧ a j < 256) → (∀ j : Int, 0 ≤ j → j < m → 1 ≤ b j ∧ b j < 256) → pkv a k = pkv b m → k = m ∧ ∀ j : Int, 0 ≤ j → j < k → a j = b j
  | 0, 0, _, _, _ => ⟨rfl, fun j j0 j1 => by omega⟩
  | 0, m + 1, _, hb, e => by
    have := (pk_b (k := ((m + 1 : Nat) : Int)) (by omega) hb).2 (by omega)
    rw [← e, show pkv a ((0 : Nat) : Int) = 0 from rfl] at this; omega
  | k + 1, 0, ha, _, e => by
    have := (pk_b (k := ((k + 1 : Nat) : Int)) (by omega) ha).2 (by omega)
    rw [e, show pkv b ((0 : Nat) : Int) = 0 from rfl] at this; omega
  | k + 1, m + 1, ha, hb, e => by
    rw [show ((k + 1 : Nat) : Int) = (k : Int) + 1 from by omega, show ((m + 1 : Nat) : Int) = (m : Int) + 1 from by omega, pk_s (by omega), pk_s (by omega)] at e
    have h1 := ha k (by omega) (by omega)
    have h2 := hb m (by omega) (by omega)
    obtain ⟨i1, i2⟩ := pk_i k m (fun j j0 j1 => ha j j0 (by omega)) (fun j j0 j1 => hb j j0 (by omega)) (by omega)
    subst i1
    refine ⟨rfl, fun j j0 j1 => ?_⟩
    by_cases ej : j = k
    · subst ej; omega
    · exact i2 j j0 (by omega)
def wln (i : Int) : Int := (([6, 6, 3, 2, 5, 4, 5, 4, 5, 3, 3, 2, 3, 2, 2, 2, 7, 4, 4, 4, 6, 4, 3, 5, 4, 4, 5, 6, 5] : List Nat).getD i.toNat 0 : Nat)
def KWd (i : Int) : Int := pkv (fun j => spc (i * 8 + j)) (wln i)
theorem wl_c : ∀ i : Fin 29, ∀ j : Fin 8, (1 ≤ wln (i.1 : Int) ∧ wln (i.1 : Int) ≤ 7) ∧ ((j.1 : Int) < wln (i.1 : Int) → 33 ≤ spc ((i.1 : Int) * 8 + (j.1 : Int)) ∧ spc ((i.1 : Int) * 8 + (j.1 : Int)) < 256) ∧ (wln (i.1 : Int) ≤ (j.1 : Int) → spc ((i.1 : Int) * 8 + (j.1 : Int)) = 32) := by decide +kernel
theorem wl_i {i j : Int} (i0 : 0 ≤ i) (i1 : i < 29) (j0 : 0 ≤ j) (j1 : j < 8) : (1 ≤ wln i ∧ wln i ≤ 7) ∧ (j < wln i → 33 ≤ spc (i * 8 + j) ∧ spc (i * 8 + j) < 256) ∧ (wln i ≤ j → spc (i * 8 + j) = 32) := by
  have := wl_c ⟨i.toNat, by omega⟩ ⟨j.toNat, by omega⟩
  simp only [show ((i.toNat : Nat) : Int) = i from by omega, show ((j.toNat : Nat) : Int) = j from by omega] at this
  exact this
theorem isL_b {x : Int} (h : isL x) : 33 ≤ x ∧ x < 256 := by unfold isL at h; omega
theorem mw_k {c : Int → Int} {p q i : Int} (pq : p < q) (q8 : q - p < 8) (hl : ∀ j, p ≤ j → j < q → isL (c j)) (i0 : 0 ≤ i) (i1 : i < 29) : MW c p q i ↔ pkv (fun j => c (p + j)) (q - p) = KWd i := by
  have w0 := (wl_i (j := 0) i0 i1 (by omega) (by omega)).1
  have hc : ∀ j : Int, 0 ≤ j → j < q - p → 33 ≤ c (p + j) ∧ c (p + j) < 256 := fun j j0 j1 => isL_b (hl (p + j) (by omega) (by omega))
  constructor
  · rintro ⟨_, m⟩
    have e : q - p = wln i := by
      rcases Int.lt_trichotomy (q - p) (wln i) with h | h | h
      · have a := (wl_i (j := q - p) i0 i1 (by omega) (by omega)).2.1 h
        have b := m (q - p) (by omega) (by omega)
        rw [if_neg (by omega)] at b; omega
      · exact h
      · have a := (wl_i (j := wln i) i0 i1 (by omega) (by omega)).2.2 (Int.le_refl _)
        have b := m (wln i) (by omega) (by omega)
        rw [if_pos (by omega)] at b
        have := hc (wln i) (by omega) h; omega
    unfold KWd
    rw [← e]
    have key : ∀ n : Nat, (n : Int) ≤ q - p → pkv (fun j => c (p + j)) n = pkv (fun j => spc (i * 8 + j)) n := by
      intro n
      induction n with
      | zero => intro _; rfl
      | succ n ih =>
        intro hn
        have b := m n (by omega) (by omega)
        rw [if_pos (by omega)] at b
        rw [show ((n + 1 : Nat) : Int) = (n : Int) + 1 from by omega, pk_s (by omega), pk_s (by omega), ih (by omega), b]
    have := key (q - p).toNat (by omega)
    rw [show (((q - p).toNat : Nat) : Int) = q - p from by omega] at this
    exact this
  · intro e
    unfold KWd at e
    obtain ⟨a, b⟩ := pk_i (a := fun j => c (p + j)) (b := fun j => spc (i * 8 + j)) (q - p).toNat (wln i).toNat (fun j j0 j1 => by have := hc j j0 (by omega); omega) (fun j j0 j1 => by have := (wl_i (j := j) i0 i1 j0 (by omega)).2.1 (by omega); omega) (by rw [show (((q - p).toNat : Nat) : Int) = q - p from by omega, show (((wln i).toNat : Nat) : Int) = wln i from by omega]; exact e)
    refine ⟨q8, fun j j0 j1 => ?_⟩
    by_cases h : p + j < q
    · rw [if_pos h]; exact (b j j0 (by omega)).symm
    · rw [if_neg h]; exact (wl_i (j := j) i0 i1 j0 j1).2.2 (by omega)

theorem kv_0 : KWd 0 = 131277443786868 := by decide +kernel
theorem kv_1 : KWd 1 = 126943821523827 := by decide +kernel
theorem kv_2 : KWd 2 = 7104869 := by decide +kernel
theorem kv_3 : KWd 3 = 30064 := by decide +kernel
theorem kv_4 : KWd 4 = 448377483892 := by decide +kernel
theorem kv_5 : KWd 5 = 1684366692 := by decide +kernel
theorem kv_6 : KWd 6 = 457236047717 := by decide +kernel
theorem kv_7 : KWd 7 = 1818586724 := by decide +kernel
theorem kv_8 : KWd 8 = 512802514792 := by decide +kernel
theorem kv_9 : KWd 9 = 7102841 := by decide +kernel
theorem kv_10 : KWd 10 = 7955827 := by decide +kernel
theorem kv_11 : KWd 11 = 28271 := by decide +kernel
theorem kv_12 : KWd 12 = 6647396 := by decide +kernel
theorem kv_13 : KWd 13 = 28518 := by decide +kernel
theorem kv_14 : KWd 14 = 29807 := by decide +kernel
theorem kv_15 : KWd 15 = 25209 := by decide +kernel
theorem kv_16 : KWd 16 = 28821916863718770 := by decide +kernel
theorem kv_17 : KWd 17 = 1802071652 := by decide +kernel
theorem kv_18 : KWd 18 = 1936292453 := by decide +kernel
theorem kv_19 : KWd 19 = 1936024942 := by decide +kernel
theorem kv_20 : KWd 20 = 125780002695524 := by decide +kernel
theorem kv_21 : KWd 21 = 1717920114 := by decide +kernel
theorem kv_22 : KWd 22 = 6449508 := by decide +kernel
theorem kv_23 : KWd 23 = 495673374574 := by decide +kernel
theorem kv_24 : KWd 24 = 1818323300 := by decide +kernel
theorem kv_25 : KWd 25 = 1818846579 := by decide +kernel
theorem kv_26 : KWd 26 = 461330343027 := by decide +kernel
theorem kv_27 : KWd 27 = 114801865155950 := by decide +kernel
theorem kv_28 : KWd 28 = 431197873267 := by decide +kernel
theorem kx_0 : bOL (sLL (bOL (sLL (bOL (sLL (bOL (bOL (sLL 119 16) (sL 101 8)) 105) 8) 103) 8) 104) 8) 116 = 131277443786868 := by simp only [bOL_d, sLL_d, sL_d]; decide +kernel
theorem kx_1 : bOL (sLL (bOL (sLL (bOL (sLL (bOL (bOL (sLL 115 16) (sL 116 8)) 105) 8) 99) 8) 107) 8) 115 = 126943821523827 := by simp only [bOL_d, sLL_d, sL_d]; decide +kernel
theorem kx_2 : bOL (bOL (sLL 108 16) (sL 105 8)) 101 = 7104869 := by simp only [bOL_d, sLL_d, sL_d]; decide +kernel
theorem kx_4 : bOL (sLL (bOL (sLL (bOL (bOL (sLL 104 16) (sL 101 8)) 97) 8) 114) 8) 116 = 448377483892 := by simp only [bOL_d, sLL_d, sL_d]; decide +kernel
theorem kx_5 : bOL (sLL (bOL (bOL (sLL 100 16) (sL 101 8)) 101) 8) 100 = 1684366692 := by simp only [bOL_d, sLL_d, sL_d]; decide +kernel
theorem kx_6 : bOL (sLL (bOL (sLL (bOL (bOL (sLL 106 16) (sL 117 8)) 100) 8) 103) 8) 101 = 457236047717 := by simp only [bOL_d, sLL_d, sL_d]; decide +kernel
theorem kx_7 : bOL (sLL (bOL (bOL (sLL 108 16) (sL 101 8)) 110) 8) 100 = 1818586724 := by simp only [bOL_d, sLL_d, sL_d]; decide +kernel
theorem kx_8 : bOL (sLL (bOL (sLL (bOL (bOL (sLL 119 16) (sL 101 8)) 105) 8) 103) 8) 104 = 512802514792 := by simp only [bOL_d, sLL_d, sL_d]; decide +kernel
theorem kx_9 : bOL (bOL (sLL 108 16) (sL 97 8)) 121 = 7102841 := by simp only [bOL_d, sLL_d, sL_d]; decide +kernel
theorem kx_10 : bOL (bOL (sLL 121 16) (sL 101 8)) 115 = 7955827 := by simp only [bOL_d, sLL_d, sL_d]; decide +kernel
theorem kx_12 : bOL (bOL (sLL 101 16) (sL 110 8)) 100 = 6647396 := by simp only [bOL_d, sLL_d, sL_d]; decide +kernel
theorem kx_16 : bOL (sLL (bOL (bOL (sLL 102 16) (sL 101 8)) 97) 32) (bOL (sLL (bOL (bOL (sLL 116 16) (sL 104 8)) 101) 8) 114) = 28821916863718770 := by simp only [bOL_d, sLL_d, sL_d]; decide +kernel
theorem kx_17 : bOL (sLL (bOL (bOL (sLL 107 16) (sL 105 8)) 110) 8) 100 = 1802071652 := by simp only [bOL_d, sLL_d, sL_d]; decide +kernel
theorem kx_18 : bOL (sLL (bOL (bOL (sLL 115 16) (sL 105 8)) 122) 8) 101 = 1936292453 := by simp only [bOL_d, sLL_d, sL_d]; decide +kernel
theorem kx_19 : bOL (sLL (bOL (bOL (sLL 115 16) (sL 101 8)) 101) 8) 110 = 1936024942 := by simp only [bOL_d, sLL_d, sL_d]; decide +kernel
theorem kx_20 : bOL (sLL (bOL (sLL (bOL (sLL (bOL (bOL (sLL 114 16) (sL 101 8)) 112) 8) 97) 8) 105) 8) 100 = 125780002695524 := by simp only [bOL_d, sLL_d, sL_d]; decide +kernel
theorem kx_21 : bOL (sLL (bOL (bOL (sLL 102 16) (sL 101 8)) 97) 8) 114 = 1717920114 := by simp only [bOL_d, sLL_d, sL_d]; decide +kernel
theorem kx_22 : bOL (bOL (sLL 98 16) (sL 105 8)) 100 = 6449508 := by simp only [bOL_d, sLL_d, sL_d]; decide +kernel
theorem kx_23 : bOL (sLL (bOL (sLL (bOL (bOL (sLL 115 16) (sL 104 8)) 111) 8) 119) 8) 110 = 495673374574 := by simp only [bOL_d, sLL_d, sL_d]; decide +kernel
theorem kx_24 : bOL (sLL (bOL (bOL (sLL 108 16) (sL 97 8)) 105) 8) 100 = 1818323300 := by simp only [bOL_d, sLL_d, sL_d]; decide +kernel
theorem kx_25 : bOL (sLL (bOL (bOL (sLL 108 16) (sL 105 8)) 101) 8) 115 = 1818846579 := by simp only [bOL_d, sLL_d, sL_d]; decide +kernel
theorem kx_26 : bOL (sLL (bOL (sLL (bOL (bOL (sLL 107 16) (sL 105 8)) 110) 8) 100) 8) 115 = 461330343027 := by simp only [bOL_d, sLL_d, sL_d]; decide +kernel
theorem kx_27 : bOL (sLL (bOL (sLL (bOL (sLL (bOL (bOL (sLL 104 16) (sL 105 8)) 100) 8) 100) 8) 101) 8) 110 = 114801865155950 := by simp only [bOL_d, sLL_d, sL_d]; decide +kernel
theorem kx_28 : bOL (sLL (bOL (sLL (bOL (bOL (sLL 100 16) (sL 101 8)) 101) 8) 100) 8) 115 = 431197873267 := by simp only [bOL_d, sLL_d, sL_d]; decide +kernel
theorem kw_lt : ∀ i : Fin 29, ∀ j : Fin 29, KWd (i.1 : Int) < 1152921504606846976 ∧ (KWd (i.1 : Int) = KWd (j.1 : Int) → i = j) := by decide +kernel
/-- the reference's word and number, letter by letter -/
def rwf (c : Int → Int) (p k : Int) : Int := it (fun j w => if w / 281474976710656 = 0 then w * 256 + c (p + j) else 1152921504606846976) 0 k
theorem rw_s {c : Int → Int} {p k : Int} (k0 : 0 ≤ k) : rwf c p (k + 1) = if rwf c p k / 281474976710656 = 0 then rwf c p k * 256 + c (p + k) else 1152921504606846976 := it_s _ _ k0
def rnf (c : Int → Int) (p k : Int) : Int := it (fun j x => if 99999 < x then x else 10 * x + c (p + j) - 48) 0 k
theorem rn_s {c : Int → Int} {p k : Int} (k0 : 0 ≤ k) : rnf c p (k + 1) = if 99999 < rnf c p k then rnf c p k else 10 * rnf c p k + c (p + k) - 48 := it_s _ _ k0
theorem rn_n {c : Int → Int} {p q : Int} (h : ∀ i, p ≤ i → i < q → isD (c i)) : ∀ k, 0 ≤ k → k ≤ q - p → (0 ≤ rnf c p k ∧ rnf c p k ≤ 1000000) ∧ nvf c p k = min 10000 (rnf c p k) := by
  intro k k0 k1
  have key : ∀ n : Nat, (n : Int) ≤ q - p → (0 ≤ rnf c p n ∧ rnf c p n ≤ 1000000) ∧ nvf c p n = min 10000 (rnf c p n) := by
    intro n
    induction n with
    | zero => intro _; exact ⟨⟨Int.le_refl _, by show (0 : Int) ≤ 1000000; omega⟩, by show (0 : Int) = min 10000 0; omega⟩
    | succ n ih =>
      intro hn
      obtain ⟨a, b⟩ := ih (by omega)
      have hd := h (p + n) (by omega) (by omega)
      unfold isD at hd
      rw [show ((n + 1 : Nat) : Int) = (n : Int) + 1 from by omega, rn_s (by omega), nv_s (by omega), b]
      split <;> omega
  have := key k.toNat (by omega)
  rw [show ((k.toNat : Nat) : Int) = k from by omega] at this
  exact this
theorem rw_pk {c : Int → Int} {p q : Int} (h : ∀ i, p ≤ i → i < q → isL (c i)) : ∀ n : Nat, (n : Int) ≤ q - p → (n ≤ 7 → rwf c p n = pkv (fun j => c (p + j)) n ∧ 0 ≤ rwf c p n ∧ rwf c p n < ((256 ^ n : Nat) : Int) ∧ (n = 7 → 281474976710656 ≤ rwf c p n)) ∧ (8 ≤ n → rwf c p n = 1152921504606846976) := by
  intro n
  induction n with
  | zero => intro _; exact ⟨fun _ => ⟨rfl, Int.le_refl _, by show (0 : Int) < ((1 : Nat) : Int); omega, fun q => by omega⟩, fun q => by omega⟩
  | succ n ih =>
    intro hn
    have hl := isL_b (h (p + n) (by omega) (by omega))
    obtain ⟨i1, i2⟩ := ih (by omega)
    rw [show ((n + 1 : Nat) : Int) = (n : Int) + 1 from by omega, rw_s (by omega), pk_s (by omega)]
    refine ⟨fun h7 => ?_, fun h8 => ?_⟩
    · obtain ⟨a1, a2, a3, a4⟩ := i1 (by omega)
      have a5 : rwf c p n < 281474976710656 := by
        have h1 : 256 ^ n ≤ 256 ^ 6 := Nat.pow_le_pow_right (by omega) (by omega)
        have h2 : (256 : Nat) ^ 6 = 281474976710656 := rfl
        generalize 256 ^ n = N at *
        omega
      rw [if_pos (by omega), a1]
      rw [a1] at a2 a3 a5
      have hp : 256 ^ (n + 1) = 256 ^ n * 256 := Nat.pow_succ _ _
      refine ⟨rfl, by omega, by rw [hp]; generalize 256 ^ n = N at *; omega, fun e7 => ?_⟩
      have en : n = 6 := by omega
      subst en
      have b1 := pk_s (a := fun j => c (p + j)) (k := 5) (by omega)
      have b2 := (pk_b (a := fun j => c (p + j)) (k := 1) (by omega) (fun j j0 j1 => by have := isL_b (h (p + j) (by omega) (by omega)); omega)).2 (by omega)
      have c1 := pk_s (a := fun j => c (p + j)) (k := 1) (by omega)
      have c2 := pk_s (a := fun j => c (p + j)) (k := 2) (by omega)
      have c3 := pk_s (a := fun j => c (p + j)) (k := 3) (by omega)
      have c4 := pk_s (a := fun j => c (p + j)) (k := 4) (by omega)
      have d1 := isL_b (h (p + 1) (by omega) (by omega))
      have d2 := isL_b (h (p + 2) (by omega) (by omega))
      have d3 := isL_b (h (p + 3) (by omega) (by omega))
      have d4 := isL_b (h (p + 4) (by omega) (by omega))
      have d5 := isL_b (h (p + 5) (by omega) (by omega))
      simp only [show (1 : Int) + 1 = 2 from rfl, show (2 : Int) + 1 = 3 from rfl, show (3 : Int) + 1 = 4 from rfl, show (4 : Int) + 1 = 5 from rfl, show (5 : Int) + 1 = 6 from rfl] at b1 c1 c2 c3 c4
      show 281474976710656 ≤ pkv (fun j => c (p + j)) 6 * 256 + c (p + 6)
      have hl : 33 ≤ c (p + 6) ∧ c (p + 6) < 256 := hl
      omega
    · by_cases e : n = 7
      · have := (i1 (by omega)).2.2.2 e
        rw [if_neg (by omega)]
      · rw [i2 (by omega), if_neg (by omega)]
def WRr (w v : Int) : Prop := ∀ i, 0 ≤ i → i < 29 → (w = KWd i ↔ v = i)
theorem wr_k {c : Int → Int} {p q v : Int} (pq : p < q) (hl : ∀ j, p ≤ j → j < q → isL (c j)) (hv : WNp c p q v) : WRr (rwf c p (q - p)) v := by
  have rk := rw_pk hl (q - p).toNat (by omega)
  rw [show (((q - p).toNat : Nat) : Int) = q - p from by omega] at rk
  have mk_ : ∀ i, 0 ≤ i → i < 29 → (rwf c p (q - p) = KWd i ↔ MW c p q i) := fun i i0 i1 => by
    by_cases h8 : q - p < 8
    · rw [(rk.1 (by omega)).1]; exact (mw_k pq h8 hl i0 i1).symm
    · rw [rk.2 (by omega)]
      have := (kw_lt ⟨i.toNat, by omega⟩ ⟨0, by omega⟩).1
      simp only [show ((i.toNat : Nat) : Int) = i from by omega] at this
      exact ⟨fun e => by omega, fun m => absurd m.1 h8⟩
  intro i i0 i1
  rw [mk_ i i0 i1]
  rcases hv with ⟨v1, v2⟩ | ⟨v1, v2, v3⟩
  · exact ⟨fun m => absurd m (v2 i i0 i1), fun e => by omega⟩
  · refine ⟨fun m => ?_, fun e => by rw [← e]; exact v3⟩
    have a := (mk_ i i0 i1).mpr m
    have b := (mk_ v v1 v2).mpr v3
    have := (kw_lt ⟨v.toNat, by omega⟩ ⟨i.toNat, by omega⟩).2
    simp only [show ((i.toNat : Nat) : Int) = i from by omega, show ((v.toNat : Nat) : Int) = v from by omega] at this
    have := this (by rw [← a, ← b])
    have : v.toNat = i.toNat := by simpa using this
    omega
def gs (b : Int) : Prop := b = 40 ∨ b = 41 ∨ b = 42 ∨ b = 43 ∨ b = 44 ∨ b = 45 ∨ b = 47 ∨ b = 59 ∨ b = 124
/-- where the reference stands in its tokens -/
def TKr (c : Int → Int) (n : Int) (s : Sg) : List Tok → Prop
  | [] => s 70 9 = 0 ∧ s 70 8 = n
  | t :: l => s 70 8 = t.2.2 ∧ ((t.1 = 2 ∧ s 70 9 = 1 ∧ 0 ≤ s 70 10 ∧ t.2.1 = min 10000 (s 70 10) ∧ (0 ≤ s 70 7 ∧ Lex c n (s 70 7) l)) ∨ (t.1 = 1 ∧ s 70 9 = 2 ∧ WRr (s 70 11) t.2.1 ∧ (0 ≤ s 70 7 ∧ Lex c n (s 70 7) l)) ∨ (t.1 = 3 ∧ ((gs t.2.1 ∧ s 70 9 = t.2.1 ∧ (0 ≤ s 70 7 ∧ Lex c n (s 70 7) l)) ∨ (¬ gs t.2.1 ∧ ¬ gs (s 70 9) ∧ 3 ≤ s 70 9))))
theorem or_add {x b : Int} (x0 : 0 ≤ x) (x1 : x < 281474976710656) (b0 : 0 ≤ b) (b1 : b < 256) : bOL (sLL x 8) b = x * 256 + b := by
  have e1 : sLL x 8 = x * 256 := by
    rw [sLL_d]; unfold sLLc
    rw [show (2 ^ ((8 : Int) % 64).toNat : Nat) = 256 from rfl]
    unfold w64; omega
  rw [e1, bOL_d]; unfold bOLc
  have e2 : u64 (x * 256) = 2 ^ 8 * x.toNat := by unfold u64; omega
  have e3 : u64 b = b.toNat := by unfold u64; omega
  rw [e2, e3, ← Nat.two_pow_add_eq_or_of_lt (show b.toNat < 2 ^ 8 by omega)]
  unfold w64; omega
theorem sr48 {x : Int} : sRL x 48 = x / 281474976710656 := by rw [sRL_d]; unfold sRLc; rfl
def Rtk (s s' : Sg) : Prop := Sm [70] s s' ∧ ∀ i, i < 7 ∨ 12 ≤ i → s' 70 i = s 70 i
theorem rtk_u {s s' : Sg} {i v : Int} (h : Rtk s s') (h7 : 7 ≤ i) (h11 : i < 12) : Rtk s (up s' 70 i v) := ⟨sm_u h.1 (by simp), fun j hj => by rw [up_i (by omega)]; exact h.2 j hj⟩
theorem rtk_r (s : Sg) : Rtk s s := ⟨sm_r _ _, fun _ _ => rfl⟩
theorem rtk_t {a b c : Sg} (h : Rtk a b) (k : Rtk b c) : Rtk a c := ⟨sm_t h.1 k.1, fun i hi => (k.2 i hi).trans (h.2 i hi)⟩
theorem r_nextToken {d : Nat} {c : Int → Int} {n : Int} {T : TT} {P : AM → Prop} {s0 : Sg} (n3 : n ≤ 300) (hc : ∀ i, 0 ≤ i → i < n → s0 74 i = c i ∧ 0 ≤ c i ∧ c i < 256) {p : Int} {l : List Tok} (hx : Lex c n p l) : ∀ s, Rtk s0 s → s0 70 4 = n → s 70 7 = p → 0 ≤ p → (∀ s', Rtk s0 s' → TKr c n s' l → P (mk s' T)) → wpV (d + 1) 190 0 [aR 70, aU] [] (mk s T) P := by
  induction hx using Lex.ind with
  | nil_ =>
    intro s rt h4 h7 p0 k
    refine g_Mo_nextToken_0 ?_
    rw [rt.2 4 (by omega), h4, h7]
    refine cf (by omega) (cf (by omega) (cf (by omega) (g_Mo_nextToken_60 (g_Mo_nextToken_65 (g_Mo_nextToken_310 (k _ (rtk_u (rtk_u rt (by omega) (by omega)) (by omega) (by omega)) ⟨up_s _ _ _ _, by rw [up_i (by decide), up_s]⟩))))))
  | blank_ pn hb hx ih =>
    rename_i p l
    intro s rt h4 h7 p0 k
    have hcp := hc p p0 pn
    refine g_Mo_nextToken_0 ?_
    rw [rt.2 4 (by omega), h4, h7, rt.1 74 (by decide), hcp.1, w32_id (x := p + 1) (by omega) (by omega)]
    have go : wpV (d + 1) 190 0 [aR 70, aU] [] (mk (up s 70 7 (p + 1)) T) P := ih _ (rtk_u rt (by omega) (by omega)) h4 (up_s _ _ _ _) (by omega) k
    rcases hb with hb | hb
    · exact ct pn (ct (by omega) (ct hb go))
    · exact ct pn (ct (by omega) (cf (by omega) (ct pn (ct (by omega) (ct hb go)))))
  | word_ pq qn hl hb hv hx ih0 =>
    rename_i p q v l
    intro s rt h4 h7 p0 k
    have hcp := hc p p0 (by omega)
    have hL := hl p (Int.le_refl _) pq
    have hL' := hL
    unfold isL at hL'
    refine g_Mo_nextToken_0 ?_
    rw [rt.2 4 (by omega), h4, h7, rt.1 74 (by decide), hcp.1]
    refine ct (by omega) (ct (by omega) (cf (by omega) (ct (by omega) (ct (by omega) (cf (by omega) (ct (by omega) (ct (by omega) (cf (by omega) (g_Mo_nextToken_68 ?_)))))))))
    have g151 : wpV (d + 1) 190 151 [aR 70, aI (c p)] [] (mk (up s 70 8 p) T) P := by
      refine g_Mo_nextToken_151 (isL_n (fun _ => g_Mo_nextToken_158 (g_Mo_nextToken_163 ?_)) (fun h => absurd hL h))
      have key : ∀ (m : Nat) (j : Int) (s1 : Sg), 0 ≤ j → p + j + m = q → Rtk s0 s1 → s1 70 7 = p + j → s1 70 8 = p → s1 70 9 = 2 → s1 70 11 = rwf c p j → wpV (d + 1) 190 168 [aR 70, aI (c p)] [] (mk s1 T) P := by
        intro m
        induction m with
        | zero =>
          intro j s1 j0 hm r1 a7 a8 a9 a11
          have ej : p + j = q := by omega
          have fin : wpV (d + 1) 190 310 [aR 70, aI (c p)] [] (mk s1 T) P := g_Mo_nextToken_310 (k s1 r1 ⟨a8, Or.inr (Or.inl ⟨rfl, a9, by rw [a11, show j = q - p from by omega]; exact wr_k pq hl hv, ⟨by omega, by rw [a7, ej]; exact hx⟩⟩)⟩)
          refine g_Mo_nextToken_168 ?_
          rw [r1.2 4 (by omega), h4, a7, ej]
          refine ci (fun c1 => ct (by omega) ?_) (fun c1 => fin)
          have hcq := hc q (by omega) c1
          have nl := hb c1
          rw [r1.1 74 (by decide), hcq.1]
          exact isL_n (fun h => absurd h nl) (fun _ => fin)
        | succ m ih =>
          intro j s1 j0 hm r1 a7 a8 a9 a11
          have hcj := hc (p + j) (by omega) (by omega)
          have hj := hl (p + j) (by omega) (by omega)
          have rk := rw_pk hl j.toNat (by omega)
          rw [show ((j.toNat : Nat) : Int) = j from by omega] at rk
          have es := rw_s (c := c) (p := p) j0
          refine g_Mo_nextToken_168 ?_
          rw [r1.2 4 (by omega), h4, a7, r1.1 74 (by decide), hcj.1, w32_id (x := p + j + 1) (by omega) (by omega), a11, sr48]
          refine ct (by omega) (ct (by omega) (isL_n (fun _ => ?_) (fun h => absurd hj h)))
          refine ci (fun c1 => ct (by omega) (ct (by omega) ?_)) (fun c1 => ?_)
          · have c1 := (cl_eq _ _).mp c1
            rw [if_pos c1] at es
            have rb : 0 ≤ rwf c p j := by
              by_cases h7 : j.toNat ≤ 7
              · exact (rk.1 h7).2.1
              · rw [rk.2 (by omega)]; omega
            rw [or_add rb (by omega) hcj.2.1 hcj.2.2]
            refine ih (j + 1) _ (by omega) (by omega) (rtk_u (rtk_u r1 (by omega) (by omega)) (by omega) (by omega)) (by rw [up_s]; omega) (by rw [up_i (by decide), up_i (by decide)]; exact a8) (by rw [up_i (by decide), up_i (by decide)]; exact a9) (by rw [up_i (by decide), up_s, es])
          · have c1 : ¬ rwf c p j / 281474976710656 = 0 := fun e => c1 ((cl_eq _ _).mpr e)
            rw [if_neg c1] at es
            refine ih (j + 1) _ (by omega) (by omega) (rtk_u (rtk_u r1 (by omega) (by omega)) (by omega) (by omega)) (by rw [up_s]; omega) (by rw [up_i (by decide), up_i (by decide)]; exact a8) (by rw [up_i (by decide), up_i (by decide)]; exact a9) (by rw [up_i (by decide), up_s, es])
      refine key (q - p).toNat 0 _ (by omega) (by omega) (rtk_u (rtk_u (rtk_u rt (by omega) (by omega)) (by omega) (by omega)) (by omega) (by omega)) ?_ ?_ ?_ ?_
      · rw [up_i (by decide), up_i (by decide), up_i (by decide), h7]; omega
      · rw [up_i (by decide), up_i (by decide), up_s]
      · rw [up_i (by decide), up_s]
      · rw [up_s]; rfl
    exact ci (fun _ => g151) (fun _ => ct (by omega) g151)
  | num_ pq qn hl hb hx ih0 =>
    rename_i p q l
    intro s rt h4 h7 p0 k
    have hcp := hc p p0 (by omega)
    have hL' := hl p (Int.le_refl _) pq
    unfold isD at hL'
    refine g_Mo_nextToken_0 ?_
    rw [rt.2 4 (by omega), h4, h7, rt.1 74 (by decide), hcp.1]
    refine ct (by omega) (ct (by omega) (cf (by omega) (ct (by omega) (ct (by omega) (cf (by omega) (ct (by omega) (ct (by omega) (cf (by omega) (g_Mo_nextToken_68 (cf (by omega) (cf (by omega) ?_)))))))))))
    have key : ∀ (m : Nat) (j : Int) (s1 : Sg), 0 ≤ j → p + j + m = q → Rtk s0 s1 → s1 70 7 = p + j → s1 70 8 = p → s1 70 9 = 1 → s1 70 10 = rnf c p j → wpV (d + 1) 190 85 [aR 70, aI (c p)] [] (mk s1 T) P := by
      intro m
      induction m with
      | zero =>
        intro j s1 j0 hm r1 a7 a8 a9 a11
        have ej : p + j = q := by omega
        have rn := rn_n hl (q - p) (by omega) (Int.le_refl _)
        have ejj : j = q - p := by omega
        have fin : wpV (d + 1) 190 310 [aR 70, aI (c p)] [] (mk s1 T) P := g_Mo_nextToken_310 (k s1 r1 ⟨a8, Or.inl ⟨rfl, a9, by rw [a11, ejj]; exact rn.1.1, by rw [a11, ejj]; exact rn.2, ⟨by omega, by rw [a7, ej]; exact hx⟩⟩⟩)
        refine g_Mo_nextToken_85 ?_
        rw [r1.2 4 (by omega), h4, a7, ej]
        refine ci (fun c1 => ct (by omega) ?_) (fun c1 => fin)
        have hcq := hc q (by omega) c1
        have nl := hb c1
        unfold isD at nl
        rw [r1.1 74 (by decide), hcq.1]
        exact ci (fun _ => fin) (fun c2 => ct (by omega) fin)
      | succ m ih =>
        intro j s1 j0 hm r1 a7 a8 a9 a11
        have hcj := hc (p + j) (by omega) (by omega)
        have hj := hl (p + j) (by omega) (by omega)
        unfold isD at hj
        have rn := (rn_n hl j j0 (by omega)).1
        have es := rn_s (c := c) (p := p) j0
        refine g_Mo_nextToken_85 ?_
        rw [r1.2 4 (by omega), h4, a7, r1.1 74 (by decide), hcj.1, w32_id (x := p + j + 1) (by omega) (by omega), a11]
        refine ct (by omega) (ct (by omega) (cf (by omega) (cf (by omega) (ci (fun c1 => ?_) (fun c1 => ct (by omega) (ct (by omega) ?_))))))
        · rw [if_pos c1] at es
          refine ih (j + 1) _ (by omega) (by omega) (rtk_u (rtk_u r1 (by omega) (by omega)) (by omega) (by omega)) (by rw [up_s]; omega) (by rw [up_i (by decide), up_i (by decide)]; exact a8) (by rw [up_i (by decide), up_i (by decide)]; exact a9) (by rw [up_i (by decide), up_s, es])
        · rw [if_neg c1] at es
          rw [w32_id (x := 10 * rnf c p j) (by omega) (by omega), w32_id (x := 10 * rnf c p j + c (p + j)) (by omega) (by omega), w32_id (x := 10 * rnf c p j + c (p + j) - 48) (by omega) (by omega)]
          refine ih (j + 1) _ (by omega) (by omega) (rtk_u (rtk_u r1 (by omega) (by omega)) (by omega) (by omega)) (by rw [up_s]; omega) (by rw [up_i (by decide), up_i (by decide)]; exact a8) (by rw [up_i (by decide), up_i (by decide)]; exact a9) (by rw [up_i (by decide), up_s, es])
    refine key (q - p).toNat 0 _ (by omega) (by omega) (rtk_u (rtk_u (rtk_u rt (by omega) (by omega)) (by omega) (by omega)) (by omega) (by omega)) ?_ ?_ ?_ ?_
    · rw [up_i (by decide), up_i (by decide), up_i (by decide), h7]; omega
    · rw [up_i (by decide), up_i (by decide), up_s]
    · rw [up_i (by decide), up_s]
    · rw [up_s]; rfl
  | sign_ pn nb nl nd hx ih0 =>
    rename_i p l
    intro s rt h4 h7 p0 k
    have hcp := hc p p0 pn
    have nb' := nb
    have nd' := nd
    unfold isB at nb'
    unfold isD at nd'
    refine g_Mo_nextToken_0 ?_
    rw [rt.2 4 (by omega), h4, h7, rt.1 74 (by decide), hcp.1]
    refine ct (by omega) (ct (by omega) (cf (by omega) (ct (by omega) (ct (by omega) (cf (by omega) (ct (by omega) (ct (by omega) (cf (by omega) (g_Mo_nextToken_68 ?_)))))))))
    have r1 : Rtk s0 (up s 70 8 p) := rtk_u rt (by omega) (by omega)
    have a8 : up s 70 8 p 70 8 = p := up_s _ _ _ _
    have a7 : up s 70 8 p 70 7 = p := by rw [up_i (by decide)]; exact h7
    have a4 : up s 70 8 p 70 4 = n := by rw [r1.2 4 (by omega)]; exact h4
    generalize up s 70 8 p = s1 at *
    have g151 : wpV (d + 1) 190 151 [aR 70, aI (c p)] [] (mk s1 T) P := by
      refine g_Mo_nextToken_151 (isL_n (fun h => absurd h nl) (fun _ => g_Mo_nextToken_234 (g_Mo_isSign_0 ?_)))
      have good : gs (c p) → wpV (d + 1) 190 239 [aR 70, aI (c p)] [aI 1, aR 70] (mk s1 T) P := fun hg => by
        have hg' := hg
        unfold gs at hg'
        refine g_Mo_nextToken_239 (cf (by omega) (cf (by omega) (cf (by omega) (g_Mo_nextToken_310 ?_))))
        rw [a7, w32_id (x := p + 1) (by omega) (by omega)]
        exact k _ (rtk_u (rtk_u r1 (by omega) (by omega)) (by omega) (by omega)) ⟨by rw [up_i (by decide), up_i (by decide)]; exact a8, Or.inr (Or.inr ⟨rfl, Or.inl ⟨hg, by rw [up_i (by decide), up_s], ⟨by rw [up_s]; omega, by rw [up_s]; exact hx⟩⟩⟩)⟩
      have bad : ¬ gs (c p) → ∀ x : Int, (x = 0 ∧ c p ≠ 60 ∧ c p ≠ 62) ∨ (x = 1 ∧ 3 ≤ c p) → wpV (d + 1) 190 239 [aR 70, aI (c p)] [aI x, aR 70] (mk s1 T) P := fun hg x hx' => by
        have fin : ∀ (a b : Int) , ¬ gs a → 3 ≤ a → wpV (d + 1) 190 310 [aR 70, aI (c p)] [] (mk (up (up s1 70 9 a) 70 7 b) T) P := fun a b h1 h2 => g_Mo_nextToken_310 (k _ (rtk_u (rtk_u r1 (by omega) (by omega)) (by omega) (by omega)) ⟨by rw [up_i (by decide), up_i (by decide)]; exact a8, Or.inr (Or.inr ⟨rfl, Or.inr ⟨hg, by rw [up_i (by decide), up_s]; exact h1, by rw [up_i (by decide), up_s]; exact h2⟩⟩)⟩)
        have fin2 : ∀ (a b a' b' : Int) , ¬ gs a' → 3 ≤ a' → wpV (d + 1) 190 310 [aR 70, aI (c p)] [] (mk (up (up (up (up s1 70 9 a) 70 7 b) 70 9 a') 70 7 b') T) P := fun a b a' b' h1 h2 => g_Mo_nextToken_310 (k _ (rtk_u (rtk_u (rtk_u (rtk_u r1 (by omega) (by omega)) (by omega) (by omega)) (by omega) (by omega)) (by omega) (by omega)) ⟨by rw [up_i (by decide), up_i (by decide), up_i (by decide), up_i (by decide)]; exact a8, Or.inr (Or.inr ⟨rfl, Or.inr ⟨hg, by rw [up_i (by decide), up_s]; exact h1, by rw [up_i (by decide), up_s]; exact h2⟩⟩)⟩)
        have g3 : ¬ gs 3 := by unfold gs; omega
        have g4 : ¬ gs 4 := by unfold gs; omega
        have g5 : ¬ gs 5 := by unfold gs; omega
        refine g_Mo_nextToken_239 ?_
        rw [a7, a4, w32_id (x := p + 1) (by omega) (by omega)]
        rcases hx' with ⟨rfl, e1, e2⟩ | ⟨rfl, e1⟩
        · exact ct rfl (cf e1 (cf e2 (fin _ _ g3 (by omega))))
        · refine cf (by omega) (ci (fun q1 => ci (fun q2 => ct (by omega) (ci (fun q3 => ct q1 (fin2 _ _ _ _ g4 (by omega))) (fun q3 => fin _ _ hg e1))) (fun q2 => fin _ _ hg e1)) (fun q1 => ci (fun q1' => ci (fun q2 => ct (by omega) (ci (fun q3 => cf q1 (fin2 _ _ _ _ g5 (by omega))) (fun q3 => fin _ _ hg e1))) (fun q2 => fin _ _ hg e1)) (fun q1' => fin _ _ hg e1)))
      refine ci (fun e => bad (by unfold gs; omega) 1 (Or.inr ⟨rfl, by omega⟩)) (fun e1 => ci (fun e => good (by unfold gs; omega)) (fun e2 => ci (fun e => good (by unfold gs; omega)) (fun e3 => ci (fun e => good (by unfold gs; omega)) (fun e4 => ci (fun e => good (by unfold gs; omega)) (fun e5 => ci (fun e => good (by unfold gs; omega)) (fun e6 => ci (fun e => good (by unfold gs; omega)) (fun e7 => ci (fun e => good (by unfold gs; omega)) (fun e8 => ci (fun e => good (by unfold gs; omega)) (fun e9 => ci (fun e => bad (by unfold gs; omega) 1 (Or.inr ⟨rfl, by omega⟩)) (fun e10 => ci (fun e => bad (by unfold gs; omega) 1 (Or.inr ⟨rfl, by omega⟩)) (fun e11 => ci (fun e => bad (by unfold gs; omega) 1 (Or.inr ⟨rfl, by omega⟩)) (fun e12 => ci (fun e => good (by unfold gs; omega)) (fun e13 => bad (by unfold gs; omega) 0 (Or.inl ⟨rfl, e10, e12⟩))))))))))))))
    exact ci (fun _ => g151) (fun c1 => ct (by omega) g151)
end
