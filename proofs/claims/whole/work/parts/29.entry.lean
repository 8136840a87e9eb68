/-! THE LAW'S ENTRY: what every frame knows, at the start -/
noncomputable section
def gvn : Cond := Jvm.Cond.and given_1 narrow_1
abbrev tmS : Term := .string "AgainstFeather$Tokens" 91
abbrev tmV : Term := .field tmS "java/lang/String" "value" "[B"
set_option maxRecDepth 100000 in
theorem gv_el : (List.range 232).all (fun j => decide ((flatC gvn)[13 + j]? = some (Cond.eq (.elem tmV (.int (Int32.ofNat j))) (.int (cbT j))))) = true := by decide +kernel
set_option maxRecDepth 100000 in
theorem gv_ex : Cond.exactly tmS "java/lang/String" ∈ flatC gvn := by decide +kernel
set_option maxRecDepth 100000 in
theorem gv_co : Cond.eq (.field tmS "java/lang/String" "coder" "B") (.int 0) ∈ flatC gvn := by decide +kernel
set_option maxRecDepth 100000 in
theorem gv_ar : Cond.arrayOf tmV .byte ∈ flatC gvn := by decide +kernel
set_option maxRecDepth 100000 in
theorem gv_le : Cond.eq (.length tmV) (.int (Int32.ofNat 232)) ∈ flatC gvn := by decide +kernel
set_option maxRecDepth 100000 in
theorem gv_cs : Cond.eq (.static "java/lang/String" "COMPACT_STRINGS" "Z") (.int 1) ∈ flatC gvn := by decide +kernel
set_option maxRecDepth 100000 in
theorem gv_sf : Cond.isRef (.static "jdk/internal/util/Preconditions" "SIOOBE_FORMATTER" "Ljava/util/function/BiFunction;") ∈ flatC gvn := by decide +kernel
theorem arr_at {s : State} {args : Array Value} {ty : FieldType} (h : (Cond.arrayClass ty).before args s = true) (hn : ∀ C, ty ≠ .object C) : ∃ cA : ClassId, ArrOfT s cA ty ∧ va_RA s cA ty := by
  obtain ⟨c, k, comp, h1, h2, h3⟩ := Cond.arrayClass_spec h
  refine ⟨c, fun n z => ⟨(fun _ h => by cases h), k, h2, comp, h3⟩, ?_⟩
  unfold va_RA
  split
  · rename_i C; exact absurd rfl (hn C)
  · exact h1
theorem arr_at2 {s : State} {args : Array Value} {C : String} (h : (Cond.arrayOver (.object C)).before args s = true) : ∃ cA : ClassId, ArrOfT s cA (.object C) ∧ va_RA s cA (.object C) := by
  obtain ⟨comp, c, k, h1, h2, h3, h4, h5⟩ := Cond.arrayOver_spec h
  exact ⟨c, fun n z => ⟨(fun _ h => by cases h), k, h3, comp, h4⟩, k, comp, h3, h4, h1, h5⟩
end
