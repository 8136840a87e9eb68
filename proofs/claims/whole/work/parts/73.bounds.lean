/-! how much memory there is at the end -/
section
theorem shDyn_len : ∀ l : List (Int × Int), (shDyn l).length = 5 * l.length
  | [] => rfl
  | q :: r => by
    have := shDyn_len r
    simp only [shDyn, List.length_cons, this]; omega
theorem shDyn_sl : ∀ l : List (Int × Int), (∀ p : Int × Int, p ∈ l → p.1 ≤ 2000 ∧ p.2 ≤ 2000) → sl (shDyn l) ≤ 4013 * l.length
  | [], _ => Nat.le_refl 0
  | q :: r, h => by
    have h1 := shDyn_sl r (fun p hp => h p (List.mem_cons_of_mem _ hp))
    have h2 := h q List.mem_cons_self
    simp only [shDyn, sl, List.length_cons]
    have e1 : (5 : Int).toNat = 5 := rfl
    have e2 : (4 : Int).toNat = 4 := rfl
    rw [e1, e2]
    omega
theorem SHt_app (T : TT) : SHt T = [(99, 0), (55, T.1)] ++ ((SHt (0, [])).drop 2 ++ shDyn T.2) := rfl
theorem SHt_c1 : ((SHt (0, [])).drop 2).length ≤ 1000 := by decide +kernel
theorem SHt_c2 : sl ((SHt (0, [])).drop 2) ≤ 200000 := by decide +kernel
theorem bounds_end {T : TT} (h : TBd 600 T) (h1 : T.1 ≤ 3072) : (SHt T).length ≤ 600000 ∧ sl (SHt T) ≤ 7302250 := by
  have a1 := shDyn_len T.2
  have a2 := shDyn_sl T.2 h.2
  have a3 := h.1
  have a4 := SHt_c1
  have a5 := SHt_c2
  rw [SHt_app T]
  generalize (SHt (0, [])).drop 2 = z at a4 a5 ⊢
  constructor
  · rw [List.length_append, List.length_append, a1]
    simp only [List.length_cons, List.length_nil]; omega
  · rw [sl_app, sl_app]
    have e : sl [((99 : Nat), (0 : Int)), (55, T.1)] = T.1.toNat := by
      show (0 : Int).toNat + (T.1.toNat + 0) = T.1.toNat
      have : (0 : Int).toNat = 0 := rfl
      omega
    rw [e]; omega
end
