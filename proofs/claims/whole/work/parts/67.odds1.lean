noncomputable section
/-! odds: pure -/
def PWr (b t : Int) : Int := it (fun _ p => w64 (p * b)) 1 t
def ROs (e n r : Int) (p : Int × Int) : Int × Int := (if n < r * 2 then w64 (p.1 + w64 (w64 (p.2 * PWr (10 - e) r) * PWr e (n - r))) else p.1, w64 (Int.tdiv (w64 (p.2 * (n - r))) (r + 1)))
def RO (e n i : Int) : Int × Int := it (ROs e n) (0, 1) i
def nxr (e m : Int) (f : Int → Int) (k : Int) : Int := if k = 0 then w64 (f 0 * e) else if k ≤ m + 1 then w64 (w64 (f k * e) + w64 (f (k - 1) * (10 - e))) else f k
def rowF (e m : Int) : Int → Int := it (fun m f => nxr e m f) (fun k => if k = 0 then 1 else 0) m
theorem row_s {e m : Int} (m0 : 0 ≤ m) : rowF e (m + 1) = nxr e m (rowF e m) := it_s _ _ m0
def rowL (e : Int) : Nat → List Int
  | 0 => [1, 0, 0, 0, 0, 0, 0, 0, 0, 0, 0, 0, 0, 0, 0, 0, 0]
  | m + 1 => [nxr e m (fun k => (rowL e m).getD k.toNat 0) 0, nxr e m (fun k => (rowL e m).getD k.toNat 0) 1, nxr e m (fun k => (rowL e m).getD k.toNat 0) 2, nxr e m (fun k => (rowL e m).getD k.toNat 0) 3, nxr e m (fun k => (rowL e m).getD k.toNat 0) 4, nxr e m (fun k => (rowL e m).getD k.toNat 0) 5, nxr e m (fun k => (rowL e m).getD k.toNat 0) 6, nxr e m (fun k => (rowL e m).getD k.toNat 0) 7, nxr e m (fun k => (rowL e m).getD k.toNat 0) 8, nxr e m (fun k => (rowL e m).getD k.toNat 0) 9, nxr e m (fun k => (rowL e m).getD k.toNat 0) 10, nxr e m (fun k => (rowL e m).getD k.toNat 0) 11, nxr e m (fun k => (rowL e m).getD k.toNat 0) 12, nxr e m (fun k => (rowL e m).getD k.toNat 0) 13, nxr e m (fun k => (rowL e m).getD k.toNat 0) 14, nxr e m (fun k => (rowL e m).getD k.toNat 0) 15, nxr e m (fun k => (rowL e m).getD k.toNat 0) 16]
theorem nxr_c {e m : Int} {f f' : Int → Int} (h : ∀ k, 0 ≤ k → k < 17 → f k = f' k) {k : Int} (k0 : 0 ≤ k) (k1 : k < 17) : nxr e m f k = nxr e m f' k := by
  unfold nxr
  by_cases a : k = 0
  · rw [if_pos a, if_pos a, h 0 (by omega) (by omega)]
  · rw [if_neg a, if_neg a]
    by_cases b : k ≤ m + 1
    · rw [if_pos b, if_pos b, h k k0 k1, h (k - 1) (by omega) (by omega)]
    · rw [if_neg b, if_neg b, h k k0 k1]
theorem row_l (e : Int) : ∀ (m : Nat) (k : Int), 0 ≤ k → k < 17 → rowF e m k = (rowL e m).getD k.toNat 0
  | 0, k, k0, k1 => by
    rcases (by omega : k = 0 ∨ k = 1 ∨ k = 2 ∨ k = 3 ∨ k = 4 ∨ k = 5 ∨ k = 6 ∨ k = 7 ∨ k = 8 ∨ k = 9 ∨ k = 10 ∨ k = 11 ∨ k = 12 ∨ k = 13 ∨ k = 14 ∨ k = 15 ∨ k = 16) with rfl | rfl | rfl | rfl | rfl | rfl | rfl | rfl | rfl | rfl | rfl | rfl | rfl | rfl | rfl | rfl | rfl <;> rfl
  | m + 1, k, k0, k1 => by
    have e1 : ((m + 1 : Nat) : Int) = (m : Int) + 1 := by omega
    rw [e1, row_s (by omega), nxr_c (f' := fun k => (rowL e m).getD k.toNat 0) (fun k k0 k1 => row_l e m k k0 k1) k0 k1]
    rcases (by omega : k = 0 ∨ k = 1 ∨ k = 2 ∨ k = 3 ∨ k = 4 ∨ k = 5 ∨ k = 6 ∨ k = 7 ∨ k = 8 ∨ k = 9 ∨ k = 10 ∨ k = 11 ∨ k = 12 ∨ k = 13 ∨ k = 14 ∨ k = 15 ∨ k = 16) with rfl | rfl | rfl | rfl | rfl | rfl | rfl | rfl | rfl | rfl | rfl | rfl | rfl | rfl | rfl | rfl | rfl <;> rfl
def UPs (f : Int → Int) (n i : Int) : Int := it (fun k s => w64 (s + f (n / 2 + 1 + k))) 0 i
def GD : Nat → Int → Int → Int
  | 0, a, _ => a
  | n + 1, a, b => if b = 0 then a else GD n b (Int.tmod a b)
def GZ : Nat → Int → Int → Bool
  | 0, _, b => decide (b = 0)
  | n + 1, a, b => if b = 0 then true else GZ n b (Int.tmod a b)
set_option maxRecDepth 100000 in
theorem k88 : ∀ e : Fin 11, ∀ j : Fin 8, (RO e.1 (2 * j.1 + 1) (2 * j.1 + 2)).1 = UPs (fun k => (rowL e.1 (2 * j.1 + 1)).getD k.toNat 0) (2 * j.1 + 1) (16 - j.1) ∧ GZ 60 (PWr 10 (2 * j.1 + 1)) (RO e.1 (2 * j.1 + 1) (2 * j.1 + 2)).1 = true ∧ GZ 60 (RO e.1 (2 * j.1 + 1) (2 * j.1 + 2)).1 (PWr 10 (2 * j.1 + 1)) = true ∧ GD 60 (PWr 10 (2 * j.1 + 1)) (RO e.1 (2 * j.1 + 1) (2 * j.1 + 2)).1 = GD 60 (RO e.1 (2 * j.1 + 1) (2 * j.1 + 2)).1 (PWr 10 (2 * j.1 + 1)) ∧ 1 ≤ GD 60 (PWr 10 (2 * j.1 + 1)) (RO e.1 (2 * j.1 + 1) (2 * j.1 + 2)).1 := by decide +kernel
end
