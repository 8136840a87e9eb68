noncomputable section
/-! pair by pair -/
abbrev S4 : Type := (Int → Int) × (Int → Int) × (Int → Int) × (Int → Int)
def rK (W k : Int) (S : S4) : Int := glv W S.1 S.2.1 (u1 S.2.2.1 k 0) 63
def PSf (W k : Int) (S : S4) : S4 := if tb W (k / 6) = true ∧ 0 < S.2.2.1 k then (u1 S.1 (k / 6) (S.1 (k / 6) - rK W k S), u1 S.2.1 (k % 6) (S.2.1 (k % 6) - rK W k S), u1 S.2.2.1 k 0, u1 S.2.2.2 k (rK W k S)) else S
def PF (W : Int) (S : S4) (i : Int) : S4 := it (PSf W) S i
theorem pf_s {W : Int} {S : S4} {i : Int} (i0 : 0 ≤ i) : PF W S (i + 1) = PSf W i (PF W S i) := it_s _ _ i0
def PIv (g : Sg) (W k : Int) (S : S4) : Prop := BdL S.1 S.2.1 S.2.2.1 ∧ Fsb W S.1 S.2.1 S.2.2.1 ∧ SDl g W S.1 S.2.1 ∧ (∀ j, 0 ≤ j → j < 36 → 0 < S.2.2.1 j → tb W (j / 6) = true ∧ tb W (j % 6) = false ∧ j % 6 < g 3 0) ∧ (∀ j, k ≤ j → j < 36 → S.2.2.2 j = 0)
theorem pi_r {g : Sg} {W k : Int} {S : S4} (k0 : 0 ≤ k) (k1 : k < 36) (h : PIv g W k S) : 0 ≤ rK W k S ∧ rK W k S ≤ S.1 (k / 6) ∧ rK W k S ≤ S.2.1 (k % 6) ∧ rK W k S ≤ S.2.2.1 k ∧ (∀ v, 0 ≤ v → v < rK W k S → ∃ x, S6 x ∧ Sb W x ∧ 0 < LKs (u1 S.1 (k / 6) (S.1 (k / 6) - v)) (u1 S.2.1 (k % 6) (S.2.1 (k % 6) - v)) (u1 S.2.2.1 k 0) x) ∧ Fsb W (u1 S.1 (k / 6) (S.1 (k / 6) - rK W k S)) (u1 S.2.1 (k % 6) (S.2.1 (k % 6) - rK W k S)) (u1 S.2.2.1 k 0) := by
  obtain ⟨bd, fs, sd, mj, nj⟩ := h
  have hm : NN S.2.2.1 36 := fun i i0 i1 => (bd.2 i i0 i1).1
  have ht : NN S.2.1 6 := fun i i0 i1 => (bd.1 i i0 i1).2.1
  have hL : NN S.1 6 := fun i i0 i1 => (bd.1 i i0 i1).1.1
  have ek : k = 6 * (k / 6) + k % 6 := by omega
  have gp := gl_p (L := S.1) (m := u1 S.2.2.1 k 0) sd.1 ht
  have gp' : GLp W S.1 S.2.1 (u1 S.2.2.1 (6 * (k / 6) + k % 6) 0) (rK W k S) := by rw [← ek]; exact gp
  have := lend_key sd.1 (by omega) (by omega) (by omega) (by omega) hm ht hL fs gp'
  rw [← ek] at this
  exact ⟨gp.1, this⟩
theorem u1_bd {L t m : Int → Int} {k r : Int} (bd : BdL L t m) (k0 : 0 ≤ k) (k1 : k < 36) (r0 : 0 ≤ r) (r1 : r ≤ L (k / 6)) (r2 : r ≤ t (k % 6)) : BdL (u1 L (k / 6) (L (k / 6) - r)) (u1 t (k % 6) (t (k % 6) - r)) (u1 m k 0) := by
  refine ⟨fun h h0 h6 => ?_, fun j j0 j1 => ?_⟩
  · have a := bd.1 h h0 h6
    have b := bd.1 (k / 6) (by omega) (by omega)
    have c := bd.1 (k % 6) (by omega) (by omega)
    unfold u1
    refine ⟨?_, ?_⟩
    · split <;> omega
    · split <;> omega
  · have a := bd.2 j j0 j1
    unfold u1
    split <;> omega
theorem pi_s {g : Sg} {W k : Int} {S : S4} (k0 : 0 ≤ k) (k1 : k < 36) (h : PIv g W k S) : PIv g W (k + 1) (PSf W k S) := by
  have hr := pi_r k0 k1 h
  obtain ⟨bd, fs, sd, mj, nj⟩ := h
  unfold PSf
  split
  · rename_i c
    obtain ⟨a1, a2, a3⟩ := mj k k0 k1 c.2
    refine ⟨u1_bd bd k0 k1 hr.1 hr.2.1 hr.2.2.1, hr.2.2.2.2.2, ⟨sd.1, sd.2.1, sd.2.2.1, fun h h0 h6 => ?_⟩, fun j j0 j1 hj => ?_, fun j j0 j1 => ?_⟩
    · have s := sd.2.2.2 h h0 h6
      refine ⟨fun e => ?_, fun e => ?_, fun e => ?_⟩
      · show u1 _ _ _ h = 0
        rw [u1_n (fun q => by rw [q, a2] at e; exact absurd e (by decide))]; exact s.1 e
      · show u1 _ _ _ h = 0
        rw [u1_n (fun q => by rw [q, a1] at e; exact absurd e (by decide))]; exact s.2.1 e
      · show u1 _ _ _ h = 0
        rw [u1_n (fun q => by omega)]; exact s.2.2 e
    · have hj : 0 < u1 S.2.2.1 k 0 j := hj
      by_cases e : j = k
      · rw [e, u1_s] at hj; omega
      · rw [u1_n e] at hj; exact mj j j0 j1 hj
    · show u1 _ _ _ j = 0
      rw [u1_n (by omega)]; exact nj j (by omega) j1
  · exact ⟨bd, fs, sd, mj, fun j j0 j1 => nj j (by omega) j1⟩
theorem pi_i {g : Sg} {W : Int} {S : S4} (h : PIv g W 0 S) : ∀ i, 0 ≤ i → i ≤ 36 → PIv g W i (PF W S i) :=
  it_inv (n := 36) (Q := fun i s => PIv g W i s) h (fun i s i0 i1 hs => pi_s i0 i1 hs)
/-- the reference's pair -/
theorem lv_bd {L t m : Int → Int} {k v : Int} (bd : BdL L t m) (k0 : 0 ≤ k) (k1 : k < 36) (v0 : 0 ≤ v) (v1 : v ≤ L (k / 6)) (v2 : v ≤ t (k % 6)) : BdL (u1 L (k / 6) (L (k / 6) - v)) (u1 t (k % 6) (t (k % 6) - v)) (u1 m k 0) := u1_bd bd k0 k1 v0 v1 v2
set_option maxRecDepth 20000 in
theorem r_findLent {d : Nat} {g σ : Sg} {T : TT} {P : AM → Prop} {W k : Int} {S : S4} (k0 : 0 ≤ k) (k1 : k < 36) (hp : PIv g W k S) (hc : tb W (k / 6) = true ∧ 0 < S.2.2.1 k) (hs : RSt σ S.1 S.2.1 S.2.2.1) (hn : ∀ j, 0 ≤ j → j < 36 → σ 84 j = S.2.2.2 j) (hw : WSt σ W) (kk : ∀ s, Sm [81, 82, 83, 84] σ s → RSt s (PSf W k S).1 (PSf W k S).2.1 (PSf W k S).2.2.1 → (∀ j, 0 ≤ j → j < 36 → s 84 j = (PSf W k S).2.2.2 j) → P (mk s T)) : wpV (d + 3) 285 0 [aR 70, aI (k / 6), aI (k % 6), aU, aU, aU, aU, aU] [] (mk σ T) P := by
  obtain ⟨p0, p1, p2, p3, p4, p5⟩ := pi_r k0 k1 hp
  obtain ⟨bd, fs, sd, mj, nj⟩ := hp
  have bk := bd.2 k k0 k1
  have bf := bd.1 (k / 6) (by omega) (by omega)
  have bc := bd.1 (k % 6) (by omega) (by omega)
  refine g_Mo_findLent_0 ?_
  rw [w32_id (x := 6 * (k / 6)) (by omega) (by omega), w32_id (x := 6 * (k / 6) + k % 6) (by omega) (by omega), show 6 * (k / 6) + k % 6 = k from by omega, hs.2 k k0 k1, (hs.1 (k / 6) (by omega) (by omega)).1, (hs.1 (k % 6) (by omega) (by omega)).2]
  refine ct (by omega) (ct (by omega) (ct (by omega) (ct (by omega) ?_)))
  have e83 : ∀ j, 0 ≤ j → j < 36 → up σ 83 k 0 83 j = u1 S.2.2.1 k 0 j := fun j j0 j1 => by
    rw [up_e]; unfold u1
    by_cases e : j = k
    · rw [if_pos e, if_pos e]
    · rw [if_neg e, if_neg e]; exact hs.2 j j0 j1
  -- a try
  have tr : ∀ (v : Int) (s : Sg), 0 ≤ v → v ≤ rK W k S → (Sm [81, 82, 83, 84] σ s ∧ (∀ h, 0 ≤ h → h < 6 → (h ≠ k / 6 → s 81 h = S.1 h) ∧ (h ≠ k % 6 → s 82 h = S.2.1 h)) ∧ (∀ j, 0 ≤ j → j < 36 → s 83 j = u1 S.2.2.1 k 0 j) ∧ (∀ j, 0 ≤ j → j < 36 → j ≠ k → s 84 j = S.2.2.2 j)) → (∀ s' r, LLp W (u1 S.1 (k / 6) (S.1 (k / 6) - v)) (u1 S.2.1 (k % 6) (S.2.1 (k % 6) - v)) (u1 S.2.2.1 k 0) r → Sm [81, 82, 83, 84] σ s' → RSt s' (u1 S.1 (k / 6) (S.1 (k / 6) - v)) (u1 S.2.1 (k % 6) (S.2.1 (k % 6) - v)) (u1 S.2.2.1 k 0) → (∀ j, 0 ≤ j → j < 36 → s' 84 j = u1 S.2.2.2 k v j) → wpV (d + 3) 285 100 [aR 70, aI (k / 6), aI (k % 6), aI k, aI (S.2.2.1 k), aI (S.1 (k / 6)), aI (S.2.1 (k % 6)), aI v] [aI r] (mk s' T) P) → wpV (d + 3) 285 41 [aR 70, aI (k / 6), aI (k % 6), aI k, aI (S.2.2.1 k), aI (S.1 (k / 6)), aI (S.2.1 (k % 6)), aI v] [] (mk s T) P := by
    intro v s v0 v1 ⟨a1, a2, a3, a4⟩ kt
    have go : ∀ z : Int, z = S.1 (k / 6) - v → wpI (d + 2) 283 0 [aR 70, aU, aU, aU] [] (mk (up (up (up s 81 (k / 6) z) 82 (k % 6) (S.2.1 (k % 6) - v)) 84 k v) T) (fun r M' => wpV (d + 2 + 1) 285 100 [aR 70, aI (k / 6), aI (k % 6), aI k, aI (S.2.2.1 k), aI (S.1 (k / 6)), aI (S.2.1 (k % 6)), aI v] [aI r] M' P) := by
      rintro z rfl
      have rs : RSt (up (up (up s 81 (k / 6) (S.1 (k / 6) - v)) 82 (k % 6) (S.2.1 (k % 6) - v)) 84 k v) (u1 S.1 (k / 6) (S.1 (k / 6) - v)) (u1 S.2.1 (k % 6) (S.2.1 (k % 6) - v)) (u1 S.2.2.1 k 0) := by
        refine ⟨fun h h0 h6 => ⟨?_, ?_⟩, fun j j0 j1 => ?_⟩
        · rw [up_c (by decide), up_c (by decide), up_e]; unfold u1
          by_cases e : h = k / 6
          · rw [if_pos e, if_pos e]
          · rw [if_neg e, if_neg e]; exact (a2 h h0 h6).1 e
        · rw [up_c (by decide), up_e, up_c (by decide)]; unfold u1
          by_cases e : h = k % 6
          · rw [if_pos e, if_pos e]
          · rw [if_neg e, if_neg e]; exact (a2 h h0 h6).2 e
        · rw [up_c (by decide), up_c (by decide), up_c (by decide)]; exact a3 j j0 j1
      have sm : Sm [81, 82, 83, 84] σ (up (up (up s 81 (k / 6) (S.1 (k / 6) - v)) 82 (k % 6) (S.2.1 (k % 6) - v)) 84 k v) := sm_u (sm_u (sm_u a1 (by simp)) (by simp)) (by simp)
      have nm : ∀ j, 0 ≤ j → j < 36 → up (up (up s 81 (k / 6) (S.1 (k / 6) - v)) 82 (k % 6) (S.2.1 (k % 6) - v)) 84 k v 84 j = u1 S.2.2.2 k v j := fun j j0 j1 => by
        rw [up_e, up_c (by decide), up_c (by decide)]; unfold u1
        by_cases e : j = k
        · rw [if_pos e, if_pos e]
        · rw [if_neg e, if_neg e]; exact a4 j j0 j1 e
      have ws : WSt (up (up (up s 81 (k / 6) (S.1 (k / 6) - v)) 82 (k % 6) (S.2.1 (k % 6) - v)) 84 k v) W := by
        unfold WSt; rw [sm 85 (by decide)]; exact hw
      generalize up (up (up s 81 (k / 6) (S.1 (k / 6) - v)) 82 (k % 6) (S.2.1 (k % 6) - v)) 84 k v = s' at *
      exact r_tooMuch (d := d) (lv_bd bd k0 k1 v0 (by omega) (by omega)) rs ws (fun r hl => kt s' r hl sm rs nm)
    refine g_Mo_findLent_41 (cf (by omega) (cf (by omega) ?_))
    rw [w32_id (x := S.1 (k / 6) - v) (by omega) (by omega), w32_id (x := S.2.1 (k % 6) - v) (by omega) (by omega)]
    exact ci (fun c => ct (by omega) (ct (by omega) (ct (by omega) (go _ rfl)))) (fun c => ct (by omega) (ct (by omega) (ct (by omega) (go 0 (by omega)))))
  refine for_up (n := rK W k S) (Hd := fun v s => wpV (d + 3) 285 41 [aR 70, aI (k / 6), aI (k % 6), aI k, aI (S.2.2.1 k), aI (S.1 (k / 6)), aI (S.2.1 (k % 6)), aI v] [] (mk s T) P) (Inv := fun v s => Sm [81, 82, 83, 84] σ s ∧ (∀ h, 0 ≤ h → h < 6 → (h ≠ k / 6 → s 81 h = S.1 h) ∧ (h ≠ k % 6 → s 82 h = S.2.1 h)) ∧ (∀ j, 0 ≤ j → j < 36 → s 83 j = u1 S.2.2.1 k 0 j) ∧ (∀ j, 0 ≤ j → j < 36 → j ≠ k → s 84 j = S.2.2.2 j)) ?_ ?_ ⟨sm_u (sm_r _ _) (by simp), fun h h0 h6 => ⟨fun _ => by rw [up_c (by decide)]; exact (hs.1 h h0 h6).1, fun _ => by rw [up_c (by decide)]; exact (hs.1 h h0 h6).2⟩, e83, fun j j0 j1 _ => by rw [up_c (by decide)]; exact hn j j0 j1⟩ p0
  · intro v s v0 v1 hi ih
    refine tr v s v0 (by omega) hi (fun s' r hl b1 b2 b3 => g_Mo_findLent_100 ?_)
    obtain ⟨x, x1, x2, x3⟩ := p4 v v0 v1
    have hr : 0 ≤ r := by
      rcases hl with ⟨q1, q2⟩ | ⟨q1, _⟩
      · by_cases e : x = 0
        · subst e
          have := lk_00 (L := u1 S.1 (k / 6) (S.1 (k / 6) - v)) (t := u1 S.2.1 (k % 6) (S.2.1 (k % 6) - v)) (m := u1 S.2.2.1 k 0) (fun i i0 i1 => ((lv_bd bd k0 k1 v0 (by omega) (by omega)).1 i i0 i1).2.1)
          omega
        · exact absurd x3 (q2 x (by have := x1.1; omega) x1.2 x2)
      · omega
    rw [w32_id (x := v + 1) (by omega) (by omega)]
    refine cf (by omega) (ih s' ⟨b1, fun h h0 h6 => ⟨fun e => ?_, fun e => ?_⟩, b2.2, fun j j0 j1 e => ?_⟩)
    · rw [(b2.1 h h0 h6).1, u1_n e]
    · rw [(b2.1 h h0 h6).2, u1_n e]
    · rw [b3 j j0 j1, u1_n e]
  · intro s hi
    refine tr (rK W k S) s p0 (Int.le_refl _) hi (fun s' r hl b1 b2 b3 => g_Mo_findLent_100 ?_)
    have hr : r = -1 := by
      rcases hl with ⟨q1, q2⟩ | ⟨q1, q2, q3, q4, _⟩
      · exact q1
      · have := p5 r ⟨by omega, q2⟩ q3; omega
    have eS : PSf W k S = (u1 S.1 (k / 6) (S.1 (k / 6) - rK W k S), u1 S.2.1 (k % 6) (S.2.1 (k % 6) - rK W k S), u1 S.2.2.1 k 0, u1 S.2.2.2 k (rK W k S)) := by unfold PSf; rw [if_pos hc]
    refine ct (by omega) (kk s' b1 ?_ ?_)
    · rw [eS]; exact b2
    · rw [eS]; exact b3
/-! the class's pair -/
theorem u1_e {f : Int → Int} {j v : Int} (h : v = f j) : u1 f j v = f := by
  funext i; unfold u1
  by_cases e : i = j
  · rw [if_pos e, h, e]
  · rw [if_neg e]
set_option maxRecDepth 20000 in
theorem c_pair {d : Nat} {g s : Sg} {T : TT} {P : AM → Prop} {W f c : Int} {S : S4} {l3 l4 : AV} (f0 : 0 ≤ f) (f6 : f < g 3 0) (wf : tb W f = true) (c0 : 0 ≤ c) (c6 : c < g 3 0) (hp : PIv g W (6 * f + c) S) (hr : CRl g s W S.1 S.2.1 S.2.2.1) (hn : ∀ j, 0 ≤ j → j < 36 → s 54 j = S.2.2.2 j) (kk : ∀ (s' : Sg) (l3 l4 : AV), Sm [52, 53, 54] s s' → CRl g s' W (PSf W (6 * f + c) S).1 (PSf W (6 * f + c) S).2.1 (PSf W (6 * f + c) S).2.2.1 → (∀ j, 0 ≤ j → j < 36 → s' 54 j = (PSf W (6 * f + c) S).2.2.2 j) → wpV (d + 3) 130 2 [aR 51, aI f, aI (c + 1), l3, l4] [] (mk s' T) P) : wpV (d + 3) 130 2 [aR 51, aI f, aI c, l3, l4] [] (mk s T) P := by
  have sd := hp.2.2.1
  have n6 := sd.2.1
  have hpr := pi_r (k := 6 * f + c) (by omega) (by omega) hp
  rw [show (6 * f + c) / 6 = f from by omega, show (6 * f + c) % 6 = c from by omega] at hpr
  obtain ⟨p0, p1, p2, p3, p4, p5⟩ := hpr
  have hp' := hp
  obtain ⟨bd, fs, _, mj, nj⟩ := hp'
  have hr' := hr
  obtain ⟨r1, r2, r3, r4, r5⟩ := hr'
  have bk := bd.2 (6 * f + c) (by omega) (by omega)
  have bf := bd.1 f f0 (by omega)
  have bc := bd.1 c c0 (by omega)
  have eno : ¬ 0 < S.2.2.1 (6 * f + c) → PSf W (6 * f + c) S = S := fun q => by unfold PSf; rw [if_neg (fun z => q z.2)]
  have eyes : 0 < S.2.2.1 (6 * f + c) → PSf W (6 * f + c) S = (u1 S.1 f (S.1 f - rK W (6 * f + c) S), u1 S.2.1 c (S.2.1 c - rK W (6 * f + c) S), u1 S.2.2.1 (6 * f + c) 0, u1 S.2.2.2 (6 * f + c) (rK W (6 * f + c) S)) := fun q => by
    unfold PSf
    rw [show (6 * f + c) / 6 = f from by omega, show (6 * f + c) % 6 = c from by omega, if_pos ⟨wf, q⟩]
  refine g_Loans_lendFrom_2 ?_
  rw [r1, r2, w32_id (x := c + 1) (by omega) (by omega), w32_id (x := f * 6) (by omega) (by omega), w32_id (x := f * 6 + c) (by omega) (by omega)]
  refine ct c6 (ci (fun q => ct (by omega) ?_) (fun q => ?_))
  · have ec := (has_0 sd.1.1 c0 (by omega)).mp q
    have eb := (r3 c c0 c6).2 ec
    rw [eb]
    refine ci (fun tp => ct (by omega) ?_) (fun tp => ?_)
    · -- both may
      have m1 : s 53 (f * 6 + c) = S.2.2.1 (6 * f + c) := r4 f c f0 (by omega) wf c0 c6 tp
      have cr0 : CRl g (up s 53 (f * 6 + c) 0) W S.1 S.2.1 (u1 S.2.2.1 (6 * f + c) 0) := by
        refine ⟨by rw [up_c (by decide)]; exact r1, by rw [up_c (by decide)]; exact r2, by rw [up_c (by decide)]; exact r3, fun k h k0 k6 wk h0 h1 th => ?_, fun i i0 i1 => ?_⟩
        · rw [up_e]; unfold u1
          by_cases e : k * 6 + h = f * 6 + c
          · rw [if_pos e, if_pos (by omega)]
          · rw [if_neg e, if_neg (by omega)]; exact r4 k h k0 k6 wk h0 h1 th
        · rw [up_e]; split
          · omega
          · exact r5 i i0 i1
      have bd0 : BdL S.1 S.2.1 (u1 S.2.2.1 (6 * f + c) 0) := ⟨bd.1, fun j j0 j1 => by
        have := bd.2 j j0 j1
        unfold u1; split <;> omega⟩
      refine c_greatestLack (d := d) bd0 cr0 sd (g_Loans_lendFrom_51 ?_)
      show brK _ (brK _ (brK _ (brK _ (brK _ (wpV (d + 3) 130 2 [aR 51, aI f, aI (w32 (c + 1)), aI (f * 6 + c), aI (rK W (6 * f + c) S)] [] _ P) _) _) _) _) _
      rw [show glv W S.1 S.2.1 (u1 S.2.2.1 (6 * f + c) 0) 63 = rK W (6 * f + c) S from rfl]
      have nfc : c ≠ f := fun e => by rw [e, wf] at ec; exact absurd ec (by decide)
      have e52 : up s 53 (f * 6 + c) 0 52 = s 52 := up_c (by decide)
      rw [e52, show up (up s 53 (f * 6 + c) 0) 52 f (w32 (s 52 f + rK W (6 * f + c) S)) 52 c = s 52 c from by rw [up_i nfc, e52], (r3 f f0 f6).1 wf, eb, w32_id (x := c + 1) (by omega) (by omega), w32_id (x := -S.1 f + rK W (6 * f + c) S) (by omega) (by omega), w32_id (x := S.2.1 c - rK W (6 * f + c) S) (by omega) (by omega)]
      refine ct (by omega) (ct (by omega) (ct (by omega) (ct (by omega) (ct (by omega) (kk _ _ _ (sm_u (sm_u (sm_u (sm_u (sm_r _ _) (by simp)) (by simp)) (by simp)) (by simp)) ?_ ?_)))))
      · -- how it stands now
        have st : CRl g (up (up (up (up s 53 (f * 6 + c) 0) 54 (f * 6 + c) (rK W (6 * f + c) S)) 52 f (-S.1 f + rK W (6 * f + c) S)) 52 c (S.2.1 c - rK W (6 * f + c) S)) W (u1 S.1 f (S.1 f - rK W (6 * f + c) S)) (u1 S.2.1 c (S.2.1 c - rK W (6 * f + c) S)) (u1 S.2.2.1 (6 * f + c) 0) := by
          refine ⟨by rw [up_c (by decide), up_c (by decide), up_c (by decide)]; exact cr0.1, by rw [up_c (by decide), up_c (by decide), up_c (by decide)]; exact cr0.2.1, fun h h0 h1 => ⟨fun e => ?_, fun e => ?_⟩, fun k h k0 k6 wk h0 h1 th => ?_, fun i i0 i1 => ?_⟩
          · have hc : h ≠ c := fun z => by rw [z, ec] at e; exact absurd e (by decide)
            rw [up_i hc, up_e, up_c (by decide), e52]; unfold u1
            by_cases z : h = f
            · rw [if_pos z, if_pos z]; omega
            · rw [if_neg z, if_neg z]; exact (r3 h h0 h1).1 e
          · have hf : h ≠ f := fun z => by rw [z, wf] at e; exact absurd e (by decide)
            rw [up_e, up_i hf, up_c (by decide), e52]; unfold u1
            by_cases z : h = c
            · rw [if_pos z, if_pos z]
            · rw [if_neg z, if_neg z]; exact (r3 h h0 h1).2 e
          · have th' : 0 < S.2.1 h := by
              have th : 0 < u1 S.2.1 c (S.2.1 c - rK W (6 * f + c) S) h := th
              unfold u1 at th
              by_cases z : h = c
              · rw [z]; exact tp
              · rw [if_neg z] at th; exact th
            rw [up_c (by decide), up_c (by decide), up_c (by decide)]
            exact cr0.2.2.2.1 k h k0 k6 wk h0 h1 th'
          · rw [up_c (by decide), up_c (by decide), up_c (by decide)]; exact cr0.2.2.2.2 i i0 i1
        by_cases z : 0 < S.2.2.1 (6 * f + c)
        · rw [eyes z]; exact st
        · rw [eno z]
          have rz : rK W (6 * f + c) S = 0 := by omega
          have e1 : u1 S.1 f (S.1 f - rK W (6 * f + c) S) = S.1 := u1_e (by omega)
          have e2 : u1 S.2.1 c (S.2.1 c - rK W (6 * f + c) S) = S.2.1 := u1_e (by omega)
          have e3 : u1 S.2.2.1 (6 * f + c) 0 = S.2.2.1 := u1_e (by omega)
          rw [e1, e2, e3] at st
          exact st
      · intro j j0 j1
        rw [up_c (by decide), up_c (by decide), up_e, up_c (by decide)]
        by_cases z : 0 < S.2.2.1 (6 * f + c)
        · rw [eyes z]
          show _ = u1 S.2.2.2 (6 * f + c) (rK W (6 * f + c) S) j
          unfold u1
          by_cases e : j = f * 6 + c
          · rw [if_pos e, if_pos (by omega)]
          · rw [if_neg e, if_neg (by omega)]; exact hn j j0 j1
        · rw [eno z]
          by_cases e : j = f * 6 + c
          · rw [if_pos e, nj j (by omega) j1]; omega
          · rw [if_neg e]; exact hn j j0 j1
    · -- nothing to be taken
      have tz : S.2.1 c = 0 := by omega
      have rz : rK W (6 * f + c) S = 0 := by omega
      refine kk s _ _ (sm_r _ _) ?_ ?_
      · by_cases z : 0 < S.2.2.1 (6 * f + c)
        · rw [eyes z]
          have e1 : u1 S.1 f (S.1 f - rK W (6 * f + c) S) = S.1 := u1_e (by omega)
          have e2 : u1 S.2.1 c (S.2.1 c - rK W (6 * f + c) S) = S.2.1 := u1_e (by omega)
          show CRl g s W (u1 S.1 f (S.1 f - rK W (6 * f + c) S)) (u1 S.2.1 c (S.2.1 c - rK W (6 * f + c) S)) (u1 S.2.2.1 (6 * f + c) 0)
          rw [e1, e2]
          refine ⟨r1, r2, r3, fun k h k0 k6 wk h0 h1 th => ?_, r5⟩
          rw [u1_n (fun e => ?_)]
          · exact r4 k h k0 k6 wk h0 h1 th
          · have : h = c := by omega
            rw [this, tz] at th; omega
        · rw [eno z]; exact hr
      · intro j j0 j1
        by_cases z : 0 < S.2.2.1 (6 * f + c)
        · rw [eyes z]
          show _ = u1 S.2.2.2 (6 * f + c) (rK W (6 * f + c) S) j
          unfold u1
          by_cases e : j = 6 * f + c
          · rw [if_pos e, hn j j0 j1, nj j (by omega) j1, rz]
          · rw [if_neg e]; exact hn j j0 j1
        · rw [eno z]; exact hn j j0 j1
  · have ec : tb W c = true := by
      cases e : tb W c with
      | true => rfl
      | false => exact absurd ((has_0 sd.1.1 c0 (by omega)).mpr e) q
    have z : ¬ 0 < S.2.2.1 (6 * f + c) := fun z => by
      have := (mj (6 * f + c) (by omega) (by omega) z).2.1
      rw [show (6 * f + c) % 6 = c from by omega, ec] at this
      exact absurd this (by decide)
    refine kk s _ _ (sm_r _ _) ?_ ?_
    · rw [eno z]; exact hr
    · rw [eno z]; exact hn
end
