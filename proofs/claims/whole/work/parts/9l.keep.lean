noncomputable section
set_option maxRecDepth 20000
/-! five cells more: a text is kept -/
abbrev ShT : Type := List (Nat × Int)
theorem nth_a {l r : ShT} {i : Nat} {x : Nat × Int} (h : i < l.length) : nth (l ++ r) i x = nth l i x := by
  induction l generalizing i with
  | nil => exact absurd h (by simp)
  | cons a l ih =>
    cases i with
    | zero => rfl
    | succ i => exact ih (by simpa using h)
theorem nth_b {l r : ShT} {i : Nat} {x : Nat × Int} : nth (l ++ r) (l.length + i) x = nth r i x := by
  induction l with
  | nil => simp
  | cons a l ih =>
    have e : (a :: l).length + i = (l.length + i) + 1 := by simp only [List.length_cons]; omega
    rw [e]; exact ih
theorem kdq_a {l r : ShT} {a : Int} (h0 : 0 ≤ a) (h : a < l.length) : kd (l ++ r) a = kd l a := by
  unfold kd; rw [nth_a (by omega)]
theorem lnq_a {l r : ShT} {a : Int} (h0 : 0 ≤ a) (h : a < l.length) : ln (l ++ r) a = ln l a := by
  unfold ln; rw [nth_a (by omega)]
theorem kdq_b {l r : ShT} {a : Int} {i : Nat} (h : a = l.length + i) : kd (l ++ r) a = (nth r i (99, 0)).1 := by
  unfold kd; rw [show a.toNat = l.length + i from by omega, nth_b]
theorem lnq_b {l r : ShT} {a : Int} {i : Nat} (h : a = l.length + i) : ln (l ++ r) a = (nth r i (99, 0)).2 := by
  unfold ln; rw [show a.toNat = l.length + i from by omega, nth_b]
theorem kd_n {l : ShT} {x : Nat × Int} : kd (l ++ [x]) l.length = x.1 := kdq_b (i := 0) (by omega)
theorem ln_n {l : ShT} {x : Nat × Int} : ln (l ++ [x]) l.length = x.2 := lnq_b (i := 0) (by omega)
theorem sd_a (q : Int × Int) : ∀ l : List (Int × Int), shDyn (l ++ [q]) = shDyn l ++ [(50, q.1), (50, q.2), (7, 5), (50, 4), (50, 4)]
  | [] => rfl
  | p :: l => by
    show (50, p.1) :: (50, p.2) :: (7, 5) :: (50, 4) :: (50, 4) :: shDyn (l ++ [q]) = _
    rw [sd_a q l]; rfl
theorem sd_n : ∀ l : List (Int × Int), (shDyn l).length = 5 * l.length
  | [] => rfl
  | p :: l => by
    have := sd_n l
    show (shDyn l).length + 1 + 1 + 1 + 1 + 1 = 5 * (l.length + 1)
    omega
theorem sh_n (T : TT) : (SHt T).length = 90 + 5 * T.2.length := by
  have := sd_n T.2
  unfold SHt
  simp only [List.length_cons]
  omega
theorem sh_a (T : TT) (q : Int × Int) : SHt (T.1, T.2 ++ [q]) = SHt T ++ [(50, q.1), (50, q.2), (7, 5), (50, 4), (50, 4)] := by
  unfold SHt
  simp only [sd_a, List.cons_append]
theorem rf_a (T : TT) (q : Int × Int) {N2 : Int} (h : N2 = 92 + 5 * T.2.length) : up (up (up (up (zr (RFt T) N2) N2 0 (N2 - 2)) N2 1 (N2 + 1)) N2 2 (N2 + 2)) N2 4 (N2 - 1) = RFt (T.1, T.2 ++ [q]) := by
  funext a k
  show (if a = N2 ∧ k = 4 then N2 - 1 else if a = N2 ∧ k = 2 then N2 + 2 else if a = N2 ∧ k = 1 then N2 + 1 else if a = N2 ∧ k = 0 then N2 - 2 else if a = N2 then 0 else RFt T a k) = _
  have e : ((T.2 ++ [q]).length : Int) = T.2.length + 1 := by simp
  unfold RFt
  show _ = (if 0 ≤ k then (if a < 90 then nth (nth rfTab a.toNat []) k.toNat 0 else if (a - 90) % 5 = 2 ∧ a < 90 + 5 * ((T.2 ++ [q]).length : Int) then (if k = 0 then a - 2 else if k = 1 then a + 1 else if k = 2 then a + 2 else if k = 4 then a - 1 else 0) else 0) else 0)
  rw [e]
  by_cases ea : a = N2
  · by_cases k0 : 0 ≤ k
    · rw [if_pos k0, if_pos k0, if_neg (show ¬ a < 90 by omega), if_neg (show ¬ a < 90 by omega), if_pos (show (a - 90) % 5 = 2 ∧ a < 90 + 5 * ((T.2.length : Int) + 1) by omega)]
      (repeat' split) <;> omega
    · rw [if_neg k0, if_neg k0]
      (repeat' split) <;> omega
  · rw [if_neg (fun z => ea z.1), if_neg (fun z => ea z.1), if_neg (fun z => ea z.1), if_neg (fun z => ea z.1), if_neg ea]
    by_cases c : (a - 90) % 5 = 2 ∧ a < 90 + 5 * (T.2.length : Int)
    · rw [if_pos c, if_pos (show (a - 90) % 5 = 2 ∧ a < 90 + 5 * ((T.2.length : Int) + 1) by omega)]
    · rw [if_neg c]
      by_cases a9 : a < 90
      · rw [if_pos a9, if_pos a9]
      · rw [if_neg (show ¬ ((a - 90) % 5 = 2 ∧ a < 90 + 5 * ((T.2.length : Int) + 1)) by omega)]
/-! steps -/
theorem c_copyOf {d : Nat} {σ ρ : Sg} {sh : ShT} {a n : Int} {Q : AV → AM → Prop} (a0 : 0 ≤ a) (al : a < sh.length) (ha : kd sh a = 50) (n0 : 0 ≤ n) (nl : n ≤ ln sh a) (n1 : n ≤ 10000) (k : ∀ σ' : Sg, (∀ b, b ≠ (sh.length : Int) → σ' b = σ b) → (∀ i, 0 ≤ i → i < n → σ' sh.length i = σ a i) → Q (aR sh.length) (σ', ρ, sh ++ [(50, n)])) : wp d 310 0 [aR a, aI n, aU] [] (σ, ρ, sh) Q := by
  refine wpn_s 2000 [] [] ?_
  show brK (Nat.ble 50 (kd sh a) && Nat.ble (kd sh a) 55) (brK (decide (n = ln sh a)) (brK (Nat.beq (kd sh a) 50 && true) (brK (Nat.beq (kd (sh ++ [(50, ln sh a)]) (sh.length : Int)) 50) (Q (aR sh.length) (cy σ a sh.length, ρ, sh ++ [(50, ln sh a)])) False) False) (brK (decide (0 ≤ n ∧ n ≤ 10000)) (brK (Nat.ble 50 (kd (sh ++ [(50, n)]) a) && Nat.ble (kd (sh ++ [(50, n)]) a) 55) (brK (Nat.beq (kd (sh ++ [(50, n)]) a) 50 && Nat.beq (kd (sh ++ [(50, n)]) (sh.length : Int)) 50 && true) (brK (decide ((0 : Int) ≤ 0 ∧ (0 : Int) ≤ 0 ∧ 0 ≤ min (ln (sh ++ [(50, n)]) a) n ∧ 0 + min (ln (sh ++ [(50, n)]) a) n ≤ ln (sh ++ [(50, n)]) a ∧ 0 + min (ln (sh ++ [(50, n)]) a) n ≤ ln (sh ++ [(50, n)]) (sh.length : Int))) (Q (aR sh.length) (cp (zr σ sh.length) a 0 sh.length 0 (min (ln (sh ++ [(50, n)]) a) n), ρ, sh ++ [(50, n)])) False) False) False) False)) False
  rw [ha]
  refine cb rfl (ci (fun e => cb rfl (cb (by rw [kd_n]; rfl) ?_)) (fun e => ct ⟨n0, n1⟩ ?_))
  · rw [← e]
    refine k _ (fun b hb => ?_) (fun i i0 i1 => ?_)
    · funext i; show (if b = (sh.length : Int) then _ else _) = _; rw [if_neg hb]
    · show (if (sh.length : Int) = (sh.length : Int) then _ else _) = _; rw [if_pos rfl]
  · rw [kdq_a a0 al, lnq_a a0 al, ha, kd_n, ln_n]
    refine cb rfl (cb rfl (ct (by show (0 : Int) ≤ 0 ∧ (0 : Int) ≤ 0 ∧ 0 ≤ min (ln sh a) n ∧ 0 + min (ln sh a) n ≤ ln sh a ∧ 0 + min (ln sh a) n ≤ n; omega) (k _ (fun b hb => ?_) (fun i i0 i1 => ?_))))
    · funext i
      show (if b = (sh.length : Int) ∧ _ ∧ _ then _ else (if b = (sh.length : Int) then 0 else σ b i)) = _
      rw [if_neg (fun z => hb z.1), if_neg hb]
    · show (if (sh.length : Int) = (sh.length : Int) ∧ 0 ≤ i ∧ i < 0 + min (ln sh a) n then (if a = (sh.length : Int) then 0 else σ a (0 + (i - 0))) else _) = _
      rw [if_pos (by omega), if_neg (by omega), show 0 + (i - 0) = i from by omega]
theorem h_read_96 {d : Nat} {σ : Sg} {T : TT} {P : Int → AM → Prop} {l1 l2 : Int} (h : wpR d 310 0 [aR 61, aI (σ 60 4), aU] [] (mk σ T) (fun r M' => wpR (d + 1) 143 107 [aR 60, aI l1, aI l2, aU] [aR r] M' P)) : wpR (d + 1) 143 96 [aR 60, aI l1, aI l2, aU] [] (mk σ T) P := wpn_s 2000 [] [] h
theorem h_read_107 {d : Nat} {σ : Sg} {T : TT} {x : Nat × Int} {P : Int → AM → Prop} {l1 l2 c : Int} (h : wpR d 310 0 [aR 64, aI (w32 (σ 60 8 * 5)), aU] [] (σ, RFt T, SHt T ++ [x]) (fun r M' => wpR (d + 1) 143 121 [aR 60, aI l1, aR c, aU] [aR r] M' P)) : wpR (d + 1) 143 107 [aR 60, aI l1, aI l2, aU] [aR c] (σ, RFt T, SHt T ++ [x]) P := wpn_s 2000 [] [] h
theorem h_read_121 {d : Nat} {σ : Sg} {T : TT} {x y : Nat × Int} {P : Int → AM → Prop} {l1 c p : Int} (h : wpR d 143 131 [aR 60, aI l1, aR c, aR p] [aR (zr (RFt T) (SHt T ++ [x] ++ [y]).length 60 5), aR c, aR (SHt T ++ [x] ++ [y]).length, aR (SHt T ++ [x] ++ [y]).length] (zr σ (SHt T ++ [x] ++ [y]).length, zr (RFt T) (SHt T ++ [x] ++ [y]).length, SHt T ++ [x] ++ [y] ++ [(7, 5)]) P) : wpR d 143 121 [aR 60, aI l1, aR c, aU] [aR p] (σ, RFt T, SHt T ++ [x] ++ [y]) P := wpn_s 2000 [(143, 131)] [] h
theorem h_read_131 {d : Nat} {σ ρ : Sg} {sh : ShT} {P : Int → AM → Prop} {l1 c p b N : Int} (h : brK (Nat.beq (kd sh b) 50 && true) (brK (Nat.beq (kd (sh ++ [(50, ln sh b)]) (sh.length : Int)) 50) (brK (Nat.beq (kd (sh ++ [(50, ln sh b)]) 60) 10) (wpR d 143 141 [aR 60, aI l1, aR c, aR p] [aR (ρ 60 6), aR sh.length, aR c, aR N, aR N] (cy σ b sh.length, ρ, sh ++ [(50, ln sh b)]) P) False) False) False) : wpR d 143 131 [aR 60, aI l1, aR c, aR p] [aR b, aR c, aR N, aR N] (σ, ρ, sh) P := wpn_s 2000 [(143, 141)] [] h
theorem h_read_141 {d : Nat} {σ ρ : Sg} {sh : ShT} {P : Int → AM → Prop} {l1 c p b e N : Int} (h : brK (Nat.beq (kd sh e) 50 && true) (brK (Nat.beq (kd (sh ++ [(50, ln sh e)]) (sh.length : Int)) 50) (brK (Nat.beq (kd (sh ++ [(50, ln sh e)]) 60) 10) (brK (Nat.beq (kd (sh ++ [(50, ln sh e)]) N + 1) 8) (wpV d 119 0 [aR N, aR c, aR b, aR sh.length, aI (cy σ e sh.length 60 8), aR p] [] (cy σ e sh.length, ρ, sh ++ [(50, ln sh e)]) (fun M' => wpR (d + 1) 143 155 [aR 60, aI l1, aR c, aR p] [aR N] M' P)) False) False) False) False) : wpR (d + 1) 143 141 [aR 60, aI l1, aR c, aR p] [aR e, aR b, aR c, aR N, aR N] (σ, ρ, sh) P := wpn_s 2000 [] [] h
theorem h_read_155 {d : Nat} {M : AM} {P : Int → AM → Prop} {l1 c p N : Int} (h : P N M) : wpR d 143 155 [aR 60, aI l1, aR c, aR p] [aR N] M P := wpn_s 2000 [] [] h
theorem h_text_0 {d : Nat} {σ ρ : Sg} {sh : ShT} {P : AM → Prop} {a c b e k p : Int} (h : brK (decide (a = 0)) False (brK (Nat.beq (kd sh a) 7 && true) (brK (Nat.beq (kd sh a) 7 && true) (brK (Nat.beq (kd sh a) 7 && true) (brK (Nat.beq (kd sh a) 7 && true) (brK (Nat.beq (kd sh a) 7 && true) (P (up σ a 3 k, up (up (up (up ρ a 0 c) a 1 b) a 2 e) a 4 p, sh)) False) False) False) False) False)) : wpV d 119 0 [aR a, aR c, aR b, aR e, aI k, aR p] [] (σ, ρ, sh) P := wpn_s 2000 [] [] h
theorem c_kept {d : Nat} {σ : Sg} {T : TT} {P : Int → AM → Prop} {l1 l2 u k : Int} (hu : σ 60 4 = u) (u0 : 0 ≤ u) (u3 : u ≤ 300) (hk : σ 60 8 = k) (k0 : 0 ≤ k) (k4 : k ≤ 24) (kk : ∀ σ' : Sg, (∀ a, a < 90 + 5 * (T.2.length : Int) → σ' a = σ a) → (∀ i, 0 ≤ i → i < u → σ' (90 + 5 * (T.2.length : Int)) i = σ 61 i) → (∀ i, 0 ≤ i → i < k * 5 → σ' (91 + 5 * (T.2.length : Int)) i = σ 64 i) → σ' (92 + 5 * (T.2.length : Int)) 3 = k → σ' (93 + 5 * (T.2.length : Int)) = σ 62 → σ' (94 + 5 * (T.2.length : Int)) = σ 63 → P (92 + 5 * (T.2.length : Int)) (mk σ' (T.1, T.2 ++ [(u, k * 5)]))) : wpR (d + 1) 143 96 [aR 60, aI l1, aI l2, aU] [] (mk σ T) P := by
  have N0 := sh_n T
  have e1 : ((SHt T ++ [((50 : Nat), u)]).length : Int) = 91 + 5 * (T.2.length : Int) := by simp; omega
  have e2 : ((SHt T ++ [((50 : Nat), u)] ++ [((50 : Nat), k * 5)]).length : Int) = 92 + 5 * (T.2.length : Int) := by simp; omega
  have e0 : ((SHt T).length : Int) = 90 + 5 * (T.2.length : Int) := by omega
  refine h_read_96 ?_
  rw [hu]
  refine c_copyOf (sh := SHt T) (by omega) (by omega) rfl u0 u3 (by omega) (fun s1 f1 g1 => ?_)
  rw [e0] at f1 g1
  rw [e0]
  refine h_read_107 ?_
  rw [f1 60 (by omega), hk, w32_id (x := k * 5) (by omega) (by omega)]
  refine c_copyOf (sh := SHt T ++ [(50, u)]) (by omega) (by omega) rfl (by omega) (by show k * 5 ≤ 120; omega) (by omega) (fun s2 f2 g2 => ?_)
  rw [e1] at f2 g2
  rw [e1]
  refine h_read_121 ?_
  rw [e2]
  have z5 : zr (RFt T) (92 + 5 * (T.2.length : Int)) 60 5 = 62 := by
    show (if (60 : Int) = 92 + 5 * (T.2.length : Int) then 0 else RFt T 60 5) = 62
    rw [if_neg (by omega)]; rfl
  have z6 : zr (RFt T) (92 + 5 * (T.2.length : Int)) 60 6 = 63 := by
    show (if (60 : Int) = 92 + 5 * (T.2.length : Int) then 0 else RFt T 60 6) = 63
    rw [if_neg (by omega)]; rfl
  rw [z5]
  refine h_read_131 ?_
  have e3 : ((SHt T ++ [((50 : Nat), u)] ++ [((50 : Nat), k * 5)] ++ [((7 : Nat), (5 : Int))]).length : Int) = 93 + 5 * (T.2.length : Int) := by simp; omega
  rw [show ln (SHt T ++ [((50 : Nat), u)] ++ [((50 : Nat), k * 5)] ++ [((7 : Nat), (5 : Int))]) 62 = 4 from rfl]
  refine cb rfl (cb (by rw [kd_n]; rfl) (cb rfl ?_))
  rw [e3, z6]
  have e4 : ((SHt T ++ [((50 : Nat), u)] ++ [((50 : Nat), k * 5)] ++ [((7 : Nat), (5 : Int))] ++ [((50 : Nat), (4 : Int))]).length : Int) = 94 + 5 * (T.2.length : Int) := by simp; omega
  have sF : SHt T ++ [((50 : Nat), u)] ++ [((50 : Nat), k * 5)] ++ [((7 : Nat), (5 : Int))] ++ [((50 : Nat), (4 : Int))] ++ [((50 : Nat), (4 : Int))] = SHt (T.1, T.2 ++ [(u, k * 5)]) := by
    rw [sh_a]; simp
  refine h_read_141 ?_
  rw [show ln (SHt T ++ [((50 : Nat), u)] ++ [((50 : Nat), k * 5)] ++ [((7 : Nat), (5 : Int))] ++ [((50 : Nat), (4 : Int))]) 63 = 4 from rfl]
  have k7 : kd (SHt T ++ [((50 : Nat), u)] ++ [((50 : Nat), k * 5)] ++ [((7 : Nat), (5 : Int))] ++ [((50 : Nat), (4 : Int))] ++ [((50 : Nat), (4 : Int))]) (92 + 5 * (T.2.length : Int)) = 7 := by
    rw [sF, sh_a, kdq_b (i := 2) (by omega)]; rfl
  refine cb rfl (cb (by rw [kd_n]; rfl) (cb rfl (cb (by rw [k7]; rfl) ?_)))
  rw [e4]
  refine h_text_0 ?_
  rw [k7]
  refine cf (by omega) (cb rfl (cb rfl (cb rfl (cb rfl (cb rfl (h_read_155 ?_))))))
  rw [sF, show (90 + 5 * (T.2.length : Int)) = 92 + 5 * (T.2.length : Int) - 2 from by omega, show (93 + 5 * (T.2.length : Int)) = 92 + 5 * (T.2.length : Int) + 1 from by omega, show (94 + 5 * (T.2.length : Int)) = 92 + 5 * (T.2.length : Int) + 2 from by omega, show (91 + 5 * (T.2.length : Int)) = 92 + 5 * (T.2.length : Int) - 1 from by omega, rf_a T (u, k * 5) rfl]
  have q : ∀ a i, up (cy (cy (zr s2 (92 + 5 * (T.2.length : Int))) 62 (92 + 5 * (T.2.length : Int) + 1)) 63 (92 + 5 * (T.2.length : Int) + 2)) (92 + 5 * (T.2.length : Int)) 3 (cy (cy (zr s2 (92 + 5 * (T.2.length : Int))) 62 (92 + 5 * (T.2.length : Int) + 1)) 63 (92 + 5 * (T.2.length : Int) + 2) 60 8) a i = if a = 92 + 5 * (T.2.length : Int) ∧ i = 3 then k else if a = 94 + 5 * (T.2.length : Int) then σ 63 i else if a = 93 + 5 * (T.2.length : Int) then σ 62 i else if a = 92 + 5 * (T.2.length : Int) then 0 else s2 a i := by
    have o : ∀ b, 0 ≤ b → b < 90 → s2 b = σ b := fun b b0 b1 => by rw [f2 b (by omega), f1 b (by omega)]
    have cyq : ∀ a i, cy (cy (zr s2 (92 + 5 * (T.2.length : Int))) 62 (92 + 5 * (T.2.length : Int) + 1)) 63 (92 + 5 * (T.2.length : Int) + 2) a i = if a = 94 + 5 * (T.2.length : Int) then σ 63 i else if a = 93 + 5 * (T.2.length : Int) then σ 62 i else if a = 92 + 5 * (T.2.length : Int) then 0 else s2 a i := fun a i => by
      show (if a = 92 + 5 * (T.2.length : Int) + 2 then (if (63 : Int) = 92 + 5 * (T.2.length : Int) + 1 then _ else (if (63 : Int) = 92 + 5 * (T.2.length : Int) then 0 else s2 63 i)) else (if a = 92 + 5 * (T.2.length : Int) + 1 then (if (62 : Int) = 92 + 5 * (T.2.length : Int) then 0 else s2 62 i) else (if a = 92 + 5 * (T.2.length : Int) then 0 else s2 a i))) = _
      rw [if_neg (show ¬ (63 : Int) = 92 + 5 * (T.2.length : Int) + 1 by omega), if_neg (show ¬ (63 : Int) = 92 + 5 * (T.2.length : Int) by omega), if_neg (show ¬ (62 : Int) = 92 + 5 * (T.2.length : Int) by omega), o 63 (by omega) (by omega), o 62 (by omega) (by omega), show 92 + 5 * (T.2.length : Int) + 2 = 94 + 5 * (T.2.length : Int) from by omega, show 92 + 5 * (T.2.length : Int) + 1 = 93 + 5 * (T.2.length : Int) from by omega]
    intro a i
    rw [cyq 60 8, if_neg (by omega), if_neg (by omega), if_neg (by omega), o 60 (by omega) (by omega), hk]; show (if a = 92 + 5 * (T.2.length : Int) ∧ i = 3 then k else cy (cy (zr s2 (92 + 5 * (T.2.length : Int))) 62 (92 + 5 * (T.2.length : Int) + 1)) 63 (92 + 5 * (T.2.length : Int) + 2) a i) = _; rw [cyq]
  refine kk _ (fun a ha => ?_) (fun i i0 i1 => ?_) (fun i i0 i1 => ?_) ?_ ?_ ?_
  · funext i; rw [q, if_neg (by omega), if_neg (by omega), if_neg (by omega), if_neg (by omega), f2 a (by omega), f1 a (by omega)]
  · rw [q, if_neg (by omega), if_neg (by omega), if_neg (by omega), if_neg (by omega), f2 _ (by omega)]; exact g1 i i0 i1
  · rw [q, if_neg (by omega), if_neg (by omega), if_neg (by omega), if_neg (by omega), g2 i i0 i1, f1 64 (by omega)]
  · rw [q, if_pos ⟨rfl, rfl⟩]
  · funext i; rw [q, if_neg (by omega), if_neg (by omega), if_pos rfl]
  · funext i; rw [q, if_neg (by omega), if_pos rfl]
end
