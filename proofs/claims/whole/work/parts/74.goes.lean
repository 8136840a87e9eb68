/-! the law goes, given its beginning and the calls to come -/
section
def Begins : Prop := ∀ (L : Nat) (f : Int → Int), L ≤ 3072 → (∀ j, r32 (f j)) → ∃ (σ : Sg) (tx : Int → TA), (∀ i, r32 (σ 1 i)) ∧ Rl σ σ ((L : Int), []) tx 10000 ∧ ∀ P : Int → AM → Prop, wpI 1290 0 18 [aR 1, aR 2, aR 70, aI 0] [] (mk σ ((L : Int), [])) P → wpI 1290 0 0 [(2, 1), aU, aU, aU] [] (M0 L f) P
theorem lawGoes_of (b : Begins) (t : LwT) (a1 : LwR 952) (a2 : LwR 1011) (a3 : LwR 1044) (a4 : LwR 1067) (a5 : LwR 1113) (a6 : LwR 1146) (a7 : LwR 1179) : LawGoes := by
  intro L f hL hf
  obtain ⟨σ, tx, e1, q, k⟩ := b L f hL hf
  have w := k (fun r M' => r = 1 ∧ M'.2.2.length ≤ 600000 ∧ sl M'.2.2 ≤ 7302250) (law_loop t a1 a2 a3 a4 a5 a6 a7 (fun σ T h h1 => ⟨rfl, bounds_end h h1⟩) 520 0 σ ((L : Int), []) tx 10000 0 q (by omega) ⟨Nat.le_refl 0, fun p hp => absurd hp List.not_mem_nil⟩ (by omega) (by show (0 : Int) ≤ (L : Int); omega) (by show (L : Int) ≤ 3072; omega) (by omega) (by show (L : Int) < _; omega) (by omega) e1)
  obtain ⟨r, M', hq, hd⟩ := wp_det w
  obtain ⟨rt, rv⟩ := r
  cases hb : Nat.beq rt 0 with
  | false =>
    revert hq
    show brK (Nat.beq rt 0) _ False → _
    rw [hb]; exact fun q => q.elim
  | true =>
    simp only [hb] at hq
    have h0 : rt = 0 := Nat.eq_of_beq_eq_true hb
    obtain ⟨h1, h2, h3⟩ := hq
    have h1' : rv = 1 := h1
    subst h0; subst h1'
    obtain ⟨n, hn⟩ := hd (fun x y => x = (0, 1) ∧ y = M') ⟨rfl, rfl⟩
    exact ⟨n, 1290, M', by omega, hn, h2, h3⟩
end
