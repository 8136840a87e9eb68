noncomputable section
theorem u32_w (n : Nat) (h : n < 4294967296) : u32 (w32 (n : Int)) = n := by unfold u32 w32; omega
theorem u32_bA (x y : Int) : u32 (bA x y) = u32 x &&& u32 y := by
  rw [bA_d]; unfold bAc
  have hx : u32 x < 4294967296 := by unfold u32; omega
  have : u32 x &&& u32 y ≤ u32 x := Nat.and_le_left
  exact u32_w _ (by omega)
theorem bA_as (x y z : Int) : bA (bA x y) z = bA x (bA y z) := by
  rw [bA_d (bA x y) z, bA_d x (bA y z)]; unfold bAc
  rw [u32_bA, u32_bA, Nat.and_assoc]
/-- all that are asked of remember -/
def ARm (g : Sg) (set x i : Int) : Prop := ∀ d, 0 ≤ d → d < i → tb set d = true → bA (g 10 d) (bA x (bX (sL 1 (g 5 d)) (-1))) ≠ 0
theorem c_allRemember {d : Nat} {σ η : Sg} {T : TT} {tx : Int → TA} {P : Int → AM → Prop} {set x : Int} (ht : Td σ η T tx) (s0 : 0 ≤ set) (k1 : ARm σ set x (σ 3 2) → P 1 (mk σ T)) (k0 : ¬ ARm σ set x (σ 3 2) → P 0 (mk σ T)) : wpI d 64 0 [aR 3, aI set, aI x, aU, aU] [] (mk σ T) P := by
  have hd := ht.1.1.2.1
  refine g_Told_allRemember_0 ?_
  suffices q : ∀ l4 : AV, wpI d 64 2 [aR 3, aI set, aI x, aI 0, l4] [] (mk σ T) P from q aU
  refine for_up (n := σ 3 2) (Hd := fun i s => ∀ l4 : AV, wpI d 64 2 [aR 3, aI set, aI x, aI i, l4] [] (mk s T) P) (Inv := fun i s => s = σ ∧ ARm σ set x i) ?_ ?_ ⟨rfl, fun d h1 h2 => by omega⟩ hd.1
  · rintro i s i0 i1 ⟨rfl, ha⟩ ih l4
    refine g_Told_allRemember_2 ?_
    rw [w32_id (x := i + 1) (by omega) (by omega)]
    refine ct i1 (ct (by omega) (ci (fun c => ?_) (fun c => ct (by omega) (ci (fun c' => ?_) (fun c' => ?_)))))
    · rw [has_0 s0 i0 (by omega)] at c
      refine ih s ⟨rfl, fun d d0 d1 q => ?_⟩ _
      by_cases e : d = i
      · subst e; rw [c] at q; exact absurd q (by decide)
      · exact ha d d0 (by omega) q
    · refine k0 (fun q => q i i0 i1 ?_ c')
      rw [has_0 s0 i0 (by omega)] at c
      cases e : tb set i <;> simp_all
    · refine ih s ⟨rfl, fun d d0 d1 q => ?_⟩ _
      by_cases e : d = i
      · subst e; exact c'
      · exact ha d d0 (by omega) q
  · rintro s ⟨rfl, ha⟩ l4
    exact g_Told_allRemember_2 (cf (by omega) (k1 ha))
/-- the best set ahead of the one that is tried next -/
def KNs (g : Sg) (set k b : Int) : Int := @ite _ ((b = -1 ∨ BC (k + 1) < BC b) ∧ ARm g set (k + 1) (g 3 2)) (Classical.propDecidable _) (k + 1) b
def KN (g : Sg) (set i : Int) : Int := it (KNs g set) (-1) i
theorem kn_p {g : Sg} {set k b : Int} (h : (b = -1 ∨ BC (k + 1) < BC b) ∧ ARm g set (k + 1) (g 3 2)) : KNs g set k b = k + 1 := @if_pos _ (Classical.propDecidable _) h _ _ _
theorem kn_n {g : Sg} {set k b : Int} (h : ¬ ((b = -1 ∨ BC (k + 1) < BC b) ∧ ARm g set (k + 1) (g 3 2))) : KNs g set k b = b := @if_neg _ (Classical.propDecidable _) h _ _ _
theorem kn_b (g : Sg) (set : Int) {i n : Int} (i0 : 0 ≤ i) (i1 : i ≤ n) : KN g set i = -1 ∨ (1 ≤ KN g set i ∧ KN g set i ≤ i) := by
  refine it_inv (n := n) (Q := fun i b => b = -1 ∨ (1 ≤ b ∧ b ≤ i)) (by omega) ?_ i i0 i1
  intro k b k0 k1 hb
  by_cases q : (b = -1 ∨ BC (k + 1) < BC b) ∧ ARm g set (k + 1) (g 3 2)
  · rw [kn_p q]; omega
  · rw [kn_n q]; omega
set_option maxRecDepth 20000 in
theorem o_kindness {e : Nat} {g : Sg} {T : TT} {tx : Int → TA} {B x : Int} : Op (e + 60) 38 [aR 2, aI x, aU, aU, aU] 287 [aR 70, aI x, aU, aU, aU, aU] g T tx B := by
  refine op_l (fun h hr => ?_)
  have hn := hr.1.1.1.1
  have hd := hr.1.1.1.2.1
  have hp := sL_n hn.1 (show g 3 0 < 31 by omega)
  have hp6 : 2 ^ (g 3 0).toNat ≤ 2 ^ 6 := Nat.pow_le_pow_right (by omega) (by omega)
  have hp0 := Nat.two_pow_pos (g 3 0).toNat
  have h64 : (2 : Nat) ^ 6 = 64 := rfl
  have no : (x < 1 ∨ w32 (sL 1 (g 3 2) - 1) < x) → Lf (e + 60) 287 [aR 70, aI x, aU, aU, aU, aU] g T tx B (-1) (mk g T) := by
    intro hx
    refine lf_n (fun h hr Q q => g_Mo_kindness_0 ?_)
    rw [hr.1.1.1.2.1.2.2]
    exact ci (fun _ => q) (fun _ => ct (by omega) q)
  refine g_Af_kindness_0 (ci (fun _ => no (by omega)) (fun c1 => cf (by omega) (ci (fun c2 => ?_) (fun c2 => no ?_))))
  · rw [setof (by omega) hd.1 (by omega)] at c2
    have cls : ∀ l4 : AV, wpI (e + 60) 38 25 [aR 2, aI x, aI (-1), aI (1 + 0), l4] [] (mk g T) (Lf (e + 60) 287 [aR 70, aI x, aU, aU, aU, aU] g T tx B) := by
      refine for_up (n := sL 1 (g 3 0) - 1) (Hd := fun k s => ∀ l4 : AV, wpI (e + 60) 38 25 [aR 2, aI x, aI (KN g x k), aI (1 + k), l4] [] (mk s T) (Lf (e + 60) 287 [aR 70, aI x, aU, aU, aU, aU] g T tx B)) (Inv := fun _ s => s = g) ?_ ?_ rfl (by omega)
      · rintro k s k0 k1 rfl ih l4
        have hb := kn_b s x (i := k) (n := k) k0 (Int.le_refl _)
        have q := ih s rfl
        rw [show KN s x (k + 1) = KNs s x k (KN s x k) from it_s _ _ k0] at q
        have rem : (KN s x k = -1 ∨ BC (k + 1) < BC (KN s x k)) → wpI (e + 59) 64 0 [aR 3, aI x, aI (1 + k), aU, aU] [] (mk s T) (fun r M' => wpI (e + 59 + 1) 38 75 [aR 2, aI x, aI (KN s x k), aI (1 + k), aI 1] [aI r] M' (Lf (e + 60) 287 [aR 70, aI x, aU, aU, aU, aU] s T tx B)) := by
          intro hf
          refine c_allRemember hr.1 (by omega) (fun ha => g_Af_kindness_75 (cf (by omega) ?_)) (fun ha => g_Af_kindness_75 (ct rfl ?_))
          · rw [show 1 + k = k + 1 from by omega] at ha ⊢
            rw [kn_p ⟨hf, ha⟩] at q
            rw [w32_id (x := k + 1 + 1) (by omega) (by omega), show k + 1 + 1 = 1 + (k + 1) from by omega]; exact q _
          · rw [show 1 + k = k + 1 from by omega] at ha ⊢
            rw [kn_n (fun w => ha w.2)] at q
            rw [w32_id (x := k + 1 + 1) (by omega) (by omega), show k + 1 + 1 = 1 + (k + 1) from by omega]; exact q _
        refine g_Af_kindness_25 (ct (by omega) (ci (fun c => rem (Or.inl c)) (fun c => c_bitCount (by omega) (by omega) ?_)))
        refine g_Af_kindness_47 (c_bitCount (by omega) (by omega) (g_Af_kindness_51 (ci (fun c' => rem (Or.inr ?_)) (fun c' => ?_))))
        · rw [show k + 1 = 1 + k from by omega]; exact c'
        · rw [kn_n (fun w => w.1.elim c (fun w => c' (by rw [show 1 + k = k + 1 from by omega]; exact w)))] at q
          rw [w32_id (x := 1 + k + 1) (by omega) (by omega), show 1 + k + 1 = 1 + (k + 1) from by omega]; exact q _
      · rintro s rfl l4
        refine g_Af_kindness_25 (cf (by omega) (lf_n (fun h hr Q q => g_Mo_kindness_0 ?_)))
        rw [hr.1.1.1.2.1.2.2]
        refine cf c1 (cf c2 ?_)
        have rf : ∀ l4 l5 : AV, wpI (e + 60) 287 24 [aR 70, aI x, aI (-1), aI (1 + 0), l4, l5] [] (mk h T) Q := by
          refine for_up (n := sL 1 (s 3 0) - 1) (Hd := fun k h' => ∀ l4 l5 : AV, wpI (e + 60) 287 24 [aR 70, aI x, aI (KN s x k), aI (1 + k), l4, l5] [] (mk h' T) Q) (Inv := fun _ h' => h' = h) ?_ ?_ rfl (by omega)
          · rintro k h k0 k1 rfl ih l4 l5
            have hb := kn_b s x (i := k) (n := k) k0 (Int.le_refl _)
            have q := ih h rfl
            rw [show KN s x (k + 1) = KNs s x k (KN s x k) from it_s _ _ k0] at q
            have rem : (KN s x k = -1 ∨ BC (k + 1) < BC (KN s x k)) → wpI (e + 60) 287 60 [aR 70, aI x, aI (KN s x k), aI (1 + k), aI 1, aI 0] [] (mk h T) Q := by
              intro hf
              have lp : ∀ v : Int, (v = 0 ∨ v = 1) → (v = 1 ↔ ARm s x (1 + k) 0) → wpI (e + 60) 287 60 [aR 70, aI x, aI (KN s x k), aI (1 + k), aI v, aI 0] [] (mk h T) Q := by
                refine for_up (n := s 3 2) (Hd := fun j h' => ∀ v : Int, (v = 0 ∨ v = 1) → (v = 1 ↔ ARm s x (1 + k) j) → wpI (e + 60) 287 60 [aR 70, aI x, aI (KN s x k), aI (1 + k), aI v, aI j] [] (mk h' T) Q) (Inv := fun _ h' => h' = h) ?_ ?_ rfl hd.1
                · rintro j h j0 j1 rfl ihj v hv hva
                  have hdd := hr.1.1.2.2.1 j j0 j1
                  refine g_Mo_kindness_60 ?_
                  rw [hr.1.1.1.2.1.2.2, w32_id (x := 6 * j) (by omega) (by omega), w32_id (x := 90 + 6 * j) (by omega) (by omega), w32_id (x := 90 + 6 * j + 5) (by omega) (by omega), w32_id (x := 90 + 6 * j + 0) (by omega) (by omega), hdd.1.2.2, hdd.2.2.2.2.2.2.2, w32_id (x := j + 1) (by omega) (by omega), bA_as]
                  have st : ARm s x (1 + k) (j + 1) ↔ ARm s x (1 + k) j ∧ (tb x j = true → bA (s 10 j) (bA (1 + k) (bX (sL 1 (s 5 j)) (-1))) ≠ 0) := by
                    constructor
                    · intro w; exact ⟨fun d d0 d1 => w d d0 (by omega), w j j0 (by omega)⟩
                    · rintro ⟨w1, w2⟩ d d0 d1
                      by_cases ee : d = j
                      · subst ee; exact w2
                      · exact w1 d d0 (by omega)
                  refine ct j1 (ci (fun c => ihj h rfl 0 (by omega) ?_) (fun c => ci (fun c' => ct (by omega) (ct (by omega) (ci (fun c'' => ihj h rfl 0 (by omega) ?_) (fun c'' => ihj h rfl 1 (by omega) ?_)))) (fun c' => ihj h rfl 1 (by omega) ?_)))
                  · rw [st]; exact ⟨fun w => by omega, fun w => by have := hva.mpr w.1; omega⟩
                  · rw [st]; rw [has_1 (by omega) j0 (by omega)] at c'; exact ⟨fun w => by omega, fun w => absurd c'' (w.2 c')⟩
                  · rw [st]; exact ⟨fun _ => ⟨hva.mp (by omega), fun _ => c''⟩, fun _ => rfl⟩
                  · rw [st]; rw [has_1 (by omega) j0 (by omega)] at c'; exact ⟨fun _ => ⟨hva.mp (by omega), fun w => absurd w c'⟩, fun _ => rfl⟩
                · rintro h rfl v hv hva
                  refine g_Mo_kindness_60 ?_
                  rw [hr.1.1.1.2.1.2.2, w32_id (x := 1 + k + 1) (by omega) (by omega), show 1 + k + 1 = 1 + (k + 1) from by omega]
                  refine cf (by omega) (ci (fun c => ?_) (fun c => ?_))
                  · rw [kn_n (fun w => by have := hva.mpr (by rw [show 1 + k = k + 1 from by omega]; exact w.2); omega)] at q; exact q _ _
                  · have ha := hva.mp (by omega)
                    rw [show 1 + k = k + 1 from by omega] at ha ⊢
                    rw [kn_p ⟨hf, ha⟩] at q; exact q _ _
              exact lp 1 (by omega) ⟨fun _ d d0 d1 => by omega, fun _ => rfl⟩
            refine g_Mo_kindness_24 ?_
            rw [hr.1.1.1.1.2.2]
            refine ct (by omega) (ci (fun c => rem (Or.inl (by omega))) (fun c => c_bits (g_Mo_kindness_44 (c_bits (g_Mo_kindness_48 (ci (fun c' => rem (Or.inr ?_)) (fun c' => ?_)))))))
            · rw [show k + 1 = 1 + k from by omega]; exact c'
            · rw [kn_n (fun w => w.1.elim (fun w => by omega) (fun w => c' (by rw [show 1 + k = k + 1 from by omega]; exact w)))] at q
              rw [w32_id (x := 1 + k + 1) (by omega) (by omega), show 1 + k + 1 = 1 + (k + 1) from by omega]; exact q _ _
          · rintro h rfl l4 l5
            refine g_Mo_kindness_24 ?_
            rw [hr.1.1.1.1.2.2]
            exact cf (by omega) q
        rw [show (1 : Int) + 0 = 1 from rfl] at rf
        exact rf _ _
    rw [show (1 : Int) + 0 = 1 from rfl] at cls
    exact cls _
  · rw [setof (by omega) hd.1 (by omega)] at c2; omega
end
