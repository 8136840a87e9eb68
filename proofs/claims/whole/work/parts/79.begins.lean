/-! the beginning: how memory stands at the loop's head -/
section
set_option maxRecDepth 20000
theorem b_1 {L : Nat} {f : Int → Int} : st0 L f 1 = f := by
  funext i; simp [st0, sa0, up, zr, M0]
theorem b_2 {L : Nat} {f : Int → Int} (i : Int) : st0 L f 2 i = if i = 14 then -1 else if i = 15 then -1 else 0 := by
  simp [st0, sa0, up, zr]
  (repeat' split) <;> omega
theorem b_3 {L : Nat} {f : Int → Int} (i : Int) : st0 L f 3 i = if i = 11 then 1 else if i = 15 then -1 else 0 := by
  simp [st0, sa0, up, zr]
  (repeat' split) <;> omega
theorem b_12 {L : Nat} {f : Int → Int} (i : Int) : st0 L f 12 i = 0 := by
  simp [st0, sa0, up, zr]
theorem b_13 {L : Nat} {f : Int → Int} (i : Int) : st0 L f 13 i = 0 := by
  simp [st0, sa0, up, zr]
theorem b_16 {L : Nat} {f : Int → Int} (i : Int) : st0 L f 16 i = if i = 0 then -1 else if i = 7 then 19 else 0 := by
  simp [st0, sa0, up, zr]
  (repeat' split) <;> omega
theorem b_17 {L : Nat} {f : Int → Int} (i : Int) : st0 L f 17 i = 0 := by
  simp [st0, sa0, up, zr]
theorem b_19 {L : Nat} {f : Int → Int} (i : Int) : st0 L f 19 i = 0 := by
  simp [st0, sa0, up, zr]
theorem b_21 {L : Nat} {f : Int → Int} (i : Int) : st0 L f 21 i = if i = 11 then 1 else if i = 15 then -1 else 0 := by
  simp [st0, sa0, up, zr]
  (repeat' split) <;> omega
theorem b_30 {L : Nat} {f : Int → Int} (i : Int) : st0 L f 30 i = 0 := by
  simp [st0, sa0, up, zr]
theorem b_31 {L : Nat} {f : Int → Int} (i : Int) : st0 L f 31 i = 0 := by
  simp [st0, sa0, up, zr]
theorem b_34 {L : Nat} {f : Int → Int} (i : Int) : st0 L f 34 i = if i = 0 then -1 else if i = 7 then 19 else 0 := by
  simp [st0, sa0, up, zr]
  (repeat' split) <;> omega
theorem b_35 {L : Nat} {f : Int → Int} (i : Int) : st0 L f 35 i = 0 := by
  simp [st0, sa0, up, zr]
theorem b_37 {L : Nat} {f : Int → Int} (i : Int) : st0 L f 37 i = 0 := by
  simp [st0, sa0, up, zr]
theorem b_70 {L : Nat} {f : Int → Int} (i : Int) : st0 L f 70 i = if i = 5 then -1 else if i = 6 then -1 else 0 := by
  simp [st0, sa0, up, zr]
  (repeat' split) <;> omega
theorem b_71 {L : Nat} {f : Int → Int} (i : Int) : st0 L f 71 i = if i = 3 then 1 else if i = 5 then 19 else if i = 7 then -1 else if i = 242 then -1 else 0 := by
  simp [st0, sa0, up, zr]
  (repeat' split) <;> omega
def cpz (σ : Sg) (n : Int) : Sg := fun a i => if a = 72 ∧ 0 ≤ i ∧ i < n then σ 71 i else σ a i
theorem cpz_s {σ : Sg} {n : Int} (n0 : 0 ≤ n) : up (cpz σ n) 72 n (cpz σ n 71 n) = cpz σ (n + 1) := by
  funext a i
  show (if a = 72 ∧ i = n then cpz σ n 71 n else cpz σ n a i) = cpz σ (n + 1) a i
  unfold cpz
  rw [if_neg (show ¬ ((71 : Int) = 72 ∧ 0 ≤ n ∧ n < n) by omega)]
  by_cases e : a = 72
  · by_cases e2 : i = n
    · rw [if_pos ⟨e, e2⟩, if_pos (by omega), e2]
    · rw [if_neg (by omega)]
      by_cases e3 : 0 ≤ i ∧ i < n
      · rw [if_pos (by omega), if_pos (by omega)]
      · rw [if_neg (by omega), if_neg (by omega)]
  · rw [if_neg (by omega), if_neg (by omega), if_neg (by omega)]
theorem r_cpz {d : Nat} {σ : Sg} {T : TT} {P : AM → Prop} (k : P (mk (cpz σ 5544) T)) : wpV d 174 0 [aR 71, aR 72, aU] [] (mk σ T) P := by
  refine g_Mo_copy_71_72_0 ?_
  refine for_up (n := 5544) (Hd := fun i s => wpV d 174 2 [aR 71, aR 72, aI i] [] (mk s T) P) (Inv := fun n s => s = cpz σ n) ?_ ?_ ?_ (by omega)
  · rintro i s i0 i1 rfl ih
    refine g_Mo_copy_71_72_2 ?_
    rw [w32_id (x := i + 1) (by omega) (by omega), cpz_s i0]
    exact ct i1 (ct (by omega) (ct (by omega) (ih _ rfl)))
  · rintro s rfl
    exact g_Mo_copy_71_72_2 (cf (by omega) k)
  · funext a i; unfold cpz; rw [if_neg (by omega)]
theorem cz_c {σ : Sg} {a : Int} (h : a ≠ 72) : cpz σ 5544 a = σ a := by
  funext i; unfold cpz; rw [if_neg (by omega)]
theorem cz_i {σ : Sg} {i : Int} (h0 : 0 ≤ i) (h1 : i < 5544) : cpz σ 5544 72 i = σ 71 i := by
  unfold cpz; rw [if_pos ⟨rfl, h0, h1⟩]
theorem to_0 {t f dr kn sz mr bd wt ak bn kh kw a : Int → Int} (ht : ∀ i, t i = if i = 11 then 1 else if i = 15 then -1 else 0) (hb : ∀ i, bn i = 0) (ha : ∀ i, 0 ≤ i → i < 5544 → a i = if i = 3 then 1 else if i = 5 then 19 else if i = 7 then -1 else if i = 242 then -1 else 0) : TO t f dr kn sz mr bd wt ak bn kh kw a := by
  have t0 : t 0 = 0 := by rw [ht]; rfl
  have t2 : t 2 = 0 := by rw [ht]; rfl
  have t9 : t 9 = 0 := by rw [ht]; rfl
  have t11 : t 11 = 1 := by rw [ht]; rfl
  have t13 : t 13 = 0 := by rw [ht]; rfl
  have t15 : t 15 = -1 := by rw [ht]; rfl
  have t16 : t 16 = 0 := by rw [ht]; rfl
  have t19 : t 19 = 0 := by rw [ht]; rfl
  refine ⟨⟨⟨by omega, by omega, ?_⟩, ⟨by omega, by omega, ?_⟩, ⟨by omega, by omega, ?_⟩, ⟨by omega, by omega, ?_⟩, ⟨by omega, by omega, ?_⟩, ⟨by omega, by omega, ?_⟩, ⟨by omega, by omega, ?_⟩, ⟨by omega, by omega, ?_⟩⟩, ?_, ?_, ?_, ?_, ?_⟩
  · rw [t0, ha 0 (by omega) (by omega)]; rfl
  · rw [t2, ha 1 (by omega) (by omega)]; rfl
  · rw [t9, ha 2 (by omega) (by omega)]; rfl
  · rw [t11, ha 3 (by omega) (by omega)]; rfl
  · rw [t13, ha 6 (by omega) (by omega)]; rfl
  · rw [t15, ha 7 (by omega) (by omega)]; rfl
  · rw [t16, ha 9 (by omega) (by omega)]; rfl
  · rw [t19, ha 10 (by omega) (by omega)]; rfl
  · intro i i0 i1; omega
  · intro i i0 i1; omega
  · intro i i0 i1; omega
  · intro i i0 i1
    rw [hb, ha (54 + i) (by omega) (by omega), if_neg (by omega), if_neg (by omega), if_neg (by omega), if_neg (by omega)]
    omega
  · intro i i0 i1; omega
theorem mo_0 {m l p a : Int → Int} {hs B : Int} (hB : 0 ≤ B) (hm : ∀ i, m i = if i = 0 then -1 else if i = 7 then 19 else 0) (hl : ∀ i, l i = 0) (ha : ∀ i, 0 ≤ i → i < 5544 → a i = if i = 3 then 1 else if i = 5 then 19 else if i = 7 then -1 else if i = 242 then -1 else 0) : MO m l p hs a B := by
  have m8 : m 8 = 0 := by rw [hm]; rfl
  have a11 : a 11 = 0 := by rw [ha 11 (by omega) (by omega)]; rfl
  refine ⟨Or.inl (by rw [hm]; rfl), ?_, ?_, ?_, ?_, ?_, ?_⟩
  · intro i i0 i1
    rw [ha (242 + i) (by omega) (by omega), hm, if_neg (by omega), if_neg (by omega), if_neg (by omega)]
    by_cases e : i = 0
    · rw [if_pos (by omega), if_pos e]
    · rw [if_neg (by omega), if_neg e, if_neg (by omega)]
  · rw [show m 6 = 0 from by rw [hm]; rfl, show a 4 = 0 from by rw [ha 4 (by omega) (by omega)]; rfl]; omega
  · rw [show m 7 = 19 from by rw [hm]; rfl, show a 5 = 19 from by rw [ha 5 (by omega) (by omega)]; rfl]; omega
  · rw [m8, a11]; omega
  · intro i i0 i1
    rw [hl, ha (18 + i) (by omega) (by omega), if_neg (by omega), if_neg (by omega), if_neg (by omega), if_neg (by omega)]
    exact ⟨by omega, by omega, rfl, fun _ => rfl⟩
  · intro i w i0 i1; rw [m8] at i1; omega
theorem tr_0 {t c a : Int → Int} {hs B : Int} (ht : ∀ i, t i = 0) (ha : a 8 = 0) : TRl t c a hs B 0 := by
  refine ⟨by rw [ht, ha]; omega, by rw [ht]; omega, ?_, ?_, ?_⟩
  · intro j j0 j1; rw [ht] at j1; omega
  · intro i j i0 i1 j1; rw [ht] at j1; omega
  · intro i i0 i1; rw [ht] at i1; omega
theorem begins : Begins := by
  intro L f hL hf
  refine ⟨cpz (st0 L f) 5544, fun _ => nA, ?_, ?_, ?_⟩
  · intro i; rw [cz_c (by decide), b_1]; exact hf i
  · have h71 : ∀ i, 0 ≤ i → i < 5544 → cpz (st0 L f) 5544 71 i = if i = 3 then 1 else if i = 5 then 19 else if i = 7 then -1 else if i = 242 then -1 else 0 := fun i _ _ => by rw [cz_c (by decide)]; exact b_71 i
    have h72 : ∀ i, 0 ≤ i → i < 5544 → cpz (st0 L f) 5544 72 i = if i = 3 then 1 else if i = 5 then 19 else if i = 7 then -1 else if i = 242 then -1 else 0 := fun i h0 h1 => by rw [cz_i h0 h1]; exact b_71 i
    have t0 : TO _ _ _ _ _ _ _ _ _ _ _ _ _ := to_0 (t := cpz (st0 L f) 5544 3) (f := cpz (st0 L f) 5544 4) (dr := cpz (st0 L f) 5544 5) (kn := cpz (st0 L f) 5544 6) (sz := cpz (st0 L f) 5544 7) (mr := cpz (st0 L f) 5544 8) (bd := cpz (st0 L f) 5544 9) (wt := cpz (st0 L f) 5544 10) (ak := cpz (st0 L f) 5544 11) (bn := cpz (st0 L f) 5544 12) (kh := cpz (st0 L f) 5544 14) (kw := cpz (st0 L f) 5544 15) (a := cpz (st0 L f) 5544 71) (fun i => by rw [cz_c (by decide)]; exact b_3 i) (fun i => by rw [cz_c (by decide)]; exact b_12 i) h71
    have t313 : cpz (st0 L f) 5544 3 13 = 0 := by rw [cz_c (by decide), b_3]; rfl
    have t2113 : cpz (st0 L f) 5544 21 13 = 0 := by rw [cz_c (by decide), b_21]; rfl
    refine ⟨⟨t0, ?_⟩, ⟨?_, ?_, ?_, ?_⟩, ⟨?_, ?_⟩, ?_, ?_, ?_, ?_, ?_, ?_, ?_, ?_⟩
    · intro t h0 h1; omega
    · rw [cz_c (by decide), cz_c (by decide), b_70, b_2]; rfl
    · rw [cz_c (by decide), b_2]; decide
    · rw [cz_c (by decide), b_2]; decide
    · intro i i0 i1; rw [cz_c (by decide), b_2] at i1; simp at i1; omega
    · rw [cz_c (by decide), cz_c (by decide), b_70, b_2]; rfl
    · rw [cz_c (by decide), cz_c (by decide), b_70, b_2]; rfl
    · exact mo_0 (by omega) (fun i => by rw [cz_c (by decide)]; exact b_16 i) (fun i => by rw [cz_c (by decide)]; exact b_17 i) h71
    · exact tr_0 (fun i => by rw [cz_c (by decide)]; exact b_19 i) (by rw [h71 8 (by omega) (by omega)]; rfl)
    · exact to_0 (fun i => by rw [cz_c (by decide)]; exact b_21 i) (fun i => by rw [cz_c (by decide)]; exact b_30 i) h72
    · exact mo_0 (by omega) (fun i => by rw [cz_c (by decide)]; exact b_34 i) (fun i => by rw [cz_c (by decide)]; exact b_35 i) h72
    · exact tr_0 (fun i => by rw [cz_c (by decide)]; exact b_37 i) (by rw [h72 8 (by omega) (by omega)]; rfl)
    · omega
    · intro t h0 h1; omega
    · intro t h0 h1
      exact ⟨Or.inl (by rw [cz_c (by decide)]; exact b_13 t), Or.inl (by rw [cz_c (by decide)]; exact b_31 t)⟩
  · intro P h
    refine lb_1 (lb_2 ?_)
    rw [rf0_eq]
    refine r_cpz (lb_3 (lb_4 h))
end
