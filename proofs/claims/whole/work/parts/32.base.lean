noncomputable section
/-! memory: what is written and what stays; loops; numbers -/
abbrev Sg : Type := Int → Int → Int
theorem up_s (σ : Sg) (a i x : Int) : up σ a i x a i = x := by simp [up]
theorem up_c {σ : Sg} {a i x a' : Int} (h : a' ≠ a) : up σ a i x a' = σ a' := by funext j; simp [up, h]
theorem up_i {σ : Sg} {a i x i' : Int} (h : i' ≠ i) : up σ a i x a i' = σ a i' := by simp [up, h]
theorem up_e (σ : Sg) (a i x i' : Int) : up σ a i x a i' = if i' = i then x else σ a i' := by simp [up]
theorem cp_c {σ : Sg} {s p a q n a' : Int} (h : a' ≠ a) : cp σ s p a q n a' = σ a' := by funext j; simp [cp, h]
theorem cp_e (σ : Sg) (s p a q n i : Int) : cp σ s p a q n a i = if q ≤ i ∧ i < q + n then σ s (p + (i - q)) else σ a i := by simp [cp]
theorem cy_c {σ : Sg} {s a a' : Int} (h : a' ≠ a) : cy σ s a a' = σ a' := by funext j; simp [cy, h]
theorem cy_e (σ : Sg) (s a i : Int) : cy σ s a a i = σ s i := by simp [cy]
theorem zr_c {σ : Sg} {a a' : Int} (h : a' ≠ a) : zr σ a a' = σ a' := by funext j; simp [zr, h]
theorem zr_e (σ : Sg) (a i : Int) : zr σ a a i = 0 := by simp [zr]
/-- all cells but those of the list are as they were -/
def Sm (cs : List Int) (σ σ' : Sg) : Prop := ∀ a, a ∉ cs → σ' a = σ a
theorem sm_r (cs : List Int) (σ : Sg) : Sm cs σ σ := fun _ _ => rfl
theorem sm_t {cs : List Int} {σ σ' σ'' : Sg} (h : Sm cs σ σ') (k : Sm cs σ' σ'') : Sm cs σ σ'' := fun a ha => (k a ha).trans (h a ha)
theorem sm_m {cs ds : List Int} {σ σ' : Sg} (h : Sm cs σ σ') (k : ∀ a, a ∈ cs → a ∈ ds) : Sm ds σ σ' := fun a ha => h a (fun q => ha (k a q))
theorem sm_u {cs : List Int} {σ σ' : Sg} {a i x : Int} (h : Sm cs σ σ') (k : a ∈ cs) : Sm cs σ (up σ' a i x) := fun b hb => by
  rw [up_c (fun e => hb (by rw [e]; exact k))]; exact h b hb
theorem sm_cp {cs : List Int} {σ σ' : Sg} {s p a q n : Int} (h : Sm cs σ σ') (k : a ∈ cs) : Sm cs σ (cp σ' s p a q n) := fun b hb => by
  rw [cp_c (fun e => hb (by rw [e]; exact k))]; exact h b hb
/-- a loop that counts up -/
theorem for_up {n : Int} (Hd : Int → Sg → Prop) (Inv : Int → Sg → Prop)
    (step : ∀ i σ, 0 ≤ i → i < n → Inv i σ → (∀ σ', Inv (i + 1) σ' → Hd (i + 1) σ') → Hd i σ)
    (done : ∀ σ, Inv n σ → Hd n σ) {σ : Sg} (h0 : Inv 0 σ) (hn : 0 ≤ n) : Hd 0 σ := by
  have key : ∀ (k : Nat) (i : Int) (σ : Sg), 0 ≤ i → i + k = n → Inv i σ → Hd i σ := by
    intro k
    induction k with
    | zero => intro i σ _ h hi; have e : i = n := by omega
              subst e; exact done _ hi
    | succ k ih => intro i σ h1 h2 hi; exact step i σ h1 (by omega) hi (fun σ' hi' => ih (i + 1) σ' (by omega) (by omega) hi')
  exact key n.toNat 0 σ (by omega) (by omega) h0
/-- what a loop has gathered ahead of i -/
def it {α : Type} (f : Int → α → α) (x : α) (i : Int) : α := Nat.rec x (fun k y => f (k : Int) y) i.toNat
theorem it_0 {α : Type} (f : Int → α → α) (x : α) : it f x 0 = x := rfl
theorem it_s {α : Type} (f : Int → α → α) (x : α) {i : Int} (h : 0 ≤ i) : it f x (i + 1) = f i (it f x i) := by
  obtain ⟨n, rfl⟩ := Int.eq_ofNat_of_zero_le h
  rfl
theorem it_c {α : Type} {f g : Int → α → α} {x : α} {n : Int} (h : ∀ i y, 0 ≤ i → i < n → f i y = g i y) : it f x n = it g x n := by
  have key : ∀ k : Nat, (k : Int) ≤ n → it f x k = it g x k := by
    intro k
    induction k with
    | zero => intro _; rfl
    | succ k ih => intro hk
                   have e : ((k + 1 : Nat) : Int) = (k : Int) + 1 := by omega
                   rw [e, it_s _ _ (by omega), it_s _ _ (by omega), ih (by omega), h _ _ (by omega) (by omega)]
  rcases Int.lt_or_le n 0 with hn | hn
  · have e : n.toNat = 0 := by omega
    unfold it; rw [e]; rfl
  · obtain ⟨k, rfl⟩ := Int.eq_ofNat_of_zero_le hn
    exact key k (by omega)
theorem it_inv {α : Type} {f : Int → α → α} {x : α} {Q : Int → α → Prop} {n : Int} (h0 : Q 0 x) (hs : ∀ i y, 0 ≤ i → i < n → Q i y → Q (i + 1) (f i y)) : ∀ i, 0 ≤ i → i ≤ n → Q i (it f x i) := by
  have key : ∀ k : Nat, (k : Int) ≤ n → Q k (it f x k) := by
    intro k
    induction k with
    | zero => intro _; exact h0
    | succ k ih => intro hk
                   have e : ((k + 1 : Nat) : Int) = (k : Int) + 1 := by omega
                   rw [e, it_s _ _ (by omega)]
                   exact hs _ _ (by omega) (by omega) (ih (by omega))
  intro i h1 h2
  obtain ⟨k, rfl⟩ := Int.eq_ofNat_of_zero_le h1
  exact key k h2
theorem w32_w {x : Int} (h : r32 x) : w32 x = x := w32_id h.1 h.2
theorem w32_ww (x : Int) : w32 (w32 x) = w32 x := w32_w (w32_r x)
theorem cbt {b : Bool} {A B : Prop} (h : b = true) (a : A) : brK b A B := by rw [h]; exact a
theorem cbf {b : Bool} {A B : Prop} (h : b = false) (a : B) : brK b A B := by rw [h]; exact a
/-- more room for calls does no harm -/
theorem wpF_d : ∀ (n d m pc : Nat) (L S : List AV) (M : AM) (Q : AV → AM → Prop), wpF n d m pc L S M Q → wpF n (d + 1) m pc L S M Q := by
  intro n
  induction n with
  | zero => intro d m pc L S M Q h; exact absurd h id
  | succ n ih =>
    intro d m pc L S M Q h
    rw [wpF_s] at h ⊢
    generalize act (fetch m pc).1 (kL m pc L) S M = a at h ⊢
    rcases a with ⟨p, l, s, M1⟩ | ⟨r, M1⟩ | ⟨y, l, nx, s, rt⟩ | _
    · exact ih _ _ _ _ _ _ _ h
    · exact h
    · cases d with
      | zero => exact absurd h id
      | succ d =>
        exact wpF_Q (fun r M' h => retK_mono (fun s h => ih _ _ _ _ _ _ _ h) h) (ih _ _ _ _ _ _ _ h)
    · exact absurd h id
theorem wp_d {d m pc : Nat} {L S : List AV} {M : AM} {Q : AV → AM → Prop} (h : wp d m pc L S M Q) : wp (d + 1) m pc L S M Q := by
  obtain ⟨n, h⟩ := h
  exact ⟨n, wpF_d _ _ _ _ _ _ _ _ h⟩
end
