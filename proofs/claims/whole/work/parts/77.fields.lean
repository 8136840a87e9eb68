/-! the fields behind the constructors are the table's -/
section
def Zo (ρ : Sg) : Prop := ∀ a k : Int, ¬ (0 ≤ a ∧ a < 90 ∧ 0 ≤ k ∧ k < 40) → ρ a k = 0
theorem zo_up {ρ : Sg} {a k x : Int} (h : Zo ρ) (b : 0 ≤ a ∧ a < 90 ∧ 0 ≤ k ∧ k < 40) : Zo (up ρ a k x) := by
  intro a' k' n
  show (if a' = a ∧ k' = k then x else ρ a' k') = 0
  rw [if_neg (by omega)]; exact h a' k' n
theorem zo_zr {ρ : Sg} {a : Int} (h : Zo ρ) : Zo (zr ρ a) := by
  intro a' k' n
  show (if a' = a then 0 else ρ a' k') = 0
  by_cases e : a' = a
  · rw [if_pos e]
  · rw [if_neg e]; exact h a' k' n
set_option maxRecDepth 20000 in
theorem zo_rf0 {L : Nat} {f : Int → Int} : Zo (rf0 L f) := by
  unfold rf0 ra0
  repeat (first | apply zo_zr | refine zo_up ?_ (by decide))
  intro a k _; rfl
theorem nth_z {l : List Int} {n : Nat} (h : l.length ≤ n) : nth l n 0 = 0 := by
  induction l generalizing n with
  | nil => cases n <;> rfl
  | cons x r ih =>
    cases n with
    | zero => simp at h
    | succ n => exact ih (by simpa using h)
set_option maxRecDepth 20000 in
theorem rf0_in : ∀ a : Fin 90, ∀ k : Fin 40, rf0 0 (fun _ => 0) (a.1 : Int) (k.1 : Int) = RFt (0, []) (a.1 : Int) (k.1 : Int) := by decide +kernel
end
