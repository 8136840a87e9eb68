/-! MY MEMORY AND THE HEAP -/
noncomputable section
/-- the places: the script's cell, the String constant's, the first new cell, the heap at the law's start -/
abbrev WD : Type := Nat × Nat × Nat × Heap
abbrev DD : Type := (Nat → ClassId) × (Nat → Nat → Nat) × (Nat → ClassId)
def cad (w : WD) (x : Int) : Nat := if x = 1 then w.1 else w.2.2.1 + (x.toNat - 2)
def cR (w : WD) (x : Int) : Value := if x = 0 then .null else .ref (cad w x)
def cV (w : WD) (v : AV) : Value := match v.1 with
  | 0 => .int (i32 v.2)
  | 1 => .long (i64 v.2)
  | 2 => cR w v.2
  | _ => .ref w.2.1
def okV (v : AV) : Prop := match v.1 with
  | 0 => r32 v.2
  | 1 => r64 v.2
  | _ => True
theorem cV_0 (w : WD) (x : Int) : cV w (0, x) = .int (i32 x) := rfl
theorem cV_1 (w : WD) (x : Int) : cV w (1, x) = .long (i64 x) := rfl
theorem cV_2 (w : WD) (x : Int) : cV w (2, x) = cR w x := rfl
theorem cV_5 (w : WD) (x : Int) : cV w (5, x) = .ref w.2.1 := rfl
theorem cR_cat (w : WD) (x : Int) : (cR w x).category = 1 := by
  unfold cR; split <;> rfl
theorem cV_cat (w : WD) (v : AV) : (cV w v).category = if v.1 = 1 then 2 else 1 := by
  obtain ⟨t, x⟩ := v
  match t with
  | 0 => rfl
  | 1 => rfl
  | 2 => exact cR_cat w x
  | n + 3 => rfl
/-- the locals that can be read -/
def lvL (w : WD) : Nat → List AV → List (Nat × Value)
  | _, [] => []
  | i, v :: r => if v.1 ≤ 2 then (i, cV w v) :: lvL w (i + 1) r else lvL w (i + 1) r
theorem lvL_mem {w : WD} {q : Nat × Value} : ∀ {L : List AV} {i : Nat}, q ∈ lvL w i L ↔ ∃ k v, L[k]? = some v ∧ v.1 ≤ 2 ∧ q = (i + k, cV w v)
  | [], i => by simp [lvL]
  | v :: r, i => by
    have ih := lvL_mem (w := w) (q := q) (L := r) (i := i + 1)
    constructor
    · intro h
      unfold lvL at h
      split at h
      · rename_i hv
        rcases List.mem_cons.mp h with h | h
        · exact ⟨0, v, rfl, hv, h⟩
        · obtain ⟨k, u, h1, h2, h3⟩ := ih.mp h
          exact ⟨k + 1, u, h1, h2, by rw [h3, show i + 1 + k = i + (k + 1) by omega]⟩
      · obtain ⟨k, u, h1, h2, h3⟩ := ih.mp h
        exact ⟨k + 1, u, h1, h2, by rw [h3, show i + 1 + k = i + (k + 1) by omega]⟩
    · rintro ⟨k, u, h1, h2, h3⟩
      unfold lvL
      match k with
      | 0 =>
        obtain rfl : v = u := by simpa using h1
        rw [if_pos h2, h3]
        exact List.mem_cons_self
      | k + 1 =>
        have h4 : q ∈ lvL w (i + 1) r := ih.mpr ⟨k, u, by simpa using h1, h2, by rw [h3, show i + 1 + k = i + (k + 1) by omega]⟩
        split
        · exact List.mem_cons_of_mem _ h4
        · exact h4
theorem lv_mono {ls : Array Slot} {n : Nat} {l l' : List (Nat × Value)} (h : lv_has ls n l) (hs : ∀ q ∈ l', q ∈ l) : lv_has ls n l' := ⟨h.1, h.2.1, fun q hq => h.2.2 q (hs q hq)⟩
def LR (w : WD) (ls : Array Slot) (n : Nat) (L : List AV) : Prop := lv_has ls n (lvL w 0 L) ∧ L.length = n ∧ ∀ v ∈ L, okV v
theorem getL_at {L : List AV} {i : Nat} {v : AV} (h : getL L i = v) (hv : v.1 ≠ 3) : L[i]? = some v := by
  unfold getL at h
  rcases Nat.lt_or_ge i L.length with hi | hi
  · rw [nth_in L i aU hi, h]
  · rw [nth_out L i aU hi] at h
    exact absurd (by rw [← h]) hv
theorem LR.get {w : WD} {ls : Array Slot} {n : Nat} {L : List AV} (h : LR w ls n L) {i : Nat} {v : AV} (hv : getL L i = v) (ht : v.1 ≤ 2) : ls[i]? = some (.val (cV w v)) ∧ okV v := by
  have h1 := getL_at hv (by omega)
  exact ⟨h.1.2.2 (i, cV w v) (lvL_mem.mpr ⟨i, v, h1, ht, by simp⟩), h.2.2 v (List.mem_of_getElem? h1)⟩
theorem set_mem {L : List AV} {i : Nat} {v u : AV} (h : u ∈ L.set i v) : u = v ∨ u ∈ L := by
  rcases List.mem_or_eq_of_mem_set h with h | h
  · exact Or.inr h
  · exact Or.inl h
theorem LR.kill1 {w : WD} {ls : Array Slot} {n : Nat} {L : List AV} (h : LR w ls n L) (k : Nat) : LR w ls n (L.set k aU) := by
  refine ⟨lv_mono h.1 ?_, by rw [List.length_set]; exact h.2.1, fun v hv => ?_⟩
  · intro q hq
    obtain ⟨j, v, h1, h2, h3⟩ := lvL_mem.mp hq
    rw [List.getElem?_set] at h1
    split at h1
    · split at h1
      · cases h1; exact absurd h2 (by decide)
      · cases h1
    · exact lvL_mem.mpr ⟨j, v, h1, h2, h3⟩
  · rcases set_mem hv with rfl | hv
    · trivial
    · exact h.2.2 v hv
theorem LR.kill {w : WD} {ls : Array Slot} {n : Nat} : ∀ {ks : List Nat} {L : List AV}, LR w ls n L → LR w ls n (kl ks L)
  | [], _, h => h
  | k :: ks, _, h => LR.kill (ks := ks) (h.kill1 k)
theorem LR.set1 {w : WD} {ls ls' : Array Slot} {n : Nat} {L : List AV} (h : LR w ls n L) {i : Nat} {v : AV} (hp : (getL L (i - 1)).1 ≠ 1) (hv : okV v) (h' : lv_has ls' n ((i, cV w v) :: (lvL w 0 L).filter (fun q => !(q.1 == i) && !(q.1 + 1 == i && q.2.category == 2)))) : LR w ls' n (L.set i v) := by
  refine ⟨lv_mono h' ?_, by rw [List.length_set]; exact h.2.1, fun u hu => ?_⟩
  · intro q hq
    obtain ⟨j, u, h1, h2, h3⟩ := lvL_mem.mp hq
    rw [Nat.zero_add] at h3
    rw [List.getElem?_set] at h1
    split at h1
    · rename_i e
      split at h1
      · cases h1
        rw [h3, e]
        exact List.mem_cons_self
      · cases h1
    · rename_i e
      refine List.mem_cons_of_mem _ (List.mem_filter.mpr ⟨lvL_mem.mpr ⟨j, u, h1, h2, by rw [h3, Nat.zero_add]⟩, ?_⟩)
      rw [h3]
      simp only [cV_cat, Bool.and_eq_true, Bool.not_eq_true', beq_eq_false_iff_ne, ne_eq, Bool.and_eq_false_iff]
      refine ⟨fun q => e q.symm, ?_⟩
      by_cases hj : j + 1 = i
      · right
        intro hc
        have hu1 : u.1 = 1 := by
          by_cases z : u.1 = 1
          · exact z
          · rw [if_neg z] at hc; omega
        apply hp
        have hjj : i - 1 = j := by omega
        rw [hjj]
        have hlt : j < L.length := (List.getElem?_eq_some_iff.mp h1).1
        have := nth_in L j aU hlt
        rw [h1] at this
        unfold getL
        rw [← Option.some.inj this]
        exact hu1
      · left; exact hj
  · rcases set_mem hu with rfl | hu
    · exact hv
    · exact h.2.2 u hu
theorem LR.set2 {w : WD} {ls ls' : Array Slot} {n : Nat} {L : List AV} (h : LR w ls n L) {i : Nat} {x : Int} (hp : (getL L (i - 1)).1 ≠ 1) (hv : r64 x) (h' : lv_has ls' n ((i, cV w (1, x)) :: (lvL w 0 L).filter (fun q => !(q.1 == i) && (!(q.1 == i + 1) && !(q.1 + 1 == i && q.2.category == 2))))) : LR w ls' n ((L.set i (1, x)).set (i + 1) a2) := by
  refine ⟨lv_mono h' ?_, by rw [List.length_set, List.length_set]; exact h.2.1, fun u hu => ?_⟩
  · intro q hq
    obtain ⟨j, u, h1, h2, h3⟩ := lvL_mem.mp hq
    rw [Nat.zero_add] at h3
    rw [List.getElem?_set] at h1
    split at h1
    · split at h1
      · cases h1; exact absurd h2 (by decide)
      · cases h1
    · rename_i e1
      rw [List.getElem?_set] at h1
      split at h1
      · rename_i e
        split at h1
        · cases h1
          rw [h3, e]
          exact List.mem_cons_self
        · cases h1
      · rename_i e
        refine List.mem_cons_of_mem _ (List.mem_filter.mpr ⟨lvL_mem.mpr ⟨j, u, h1, h2, by rw [h3, Nat.zero_add]⟩, ?_⟩)
        rw [h3]
        simp only [cV_cat, Bool.and_eq_true, Bool.not_eq_true', beq_eq_false_iff_ne, ne_eq, Bool.and_eq_false_iff]
        refine ⟨fun q => e q.symm, fun q => e1 q.symm, ?_⟩
        by_cases hj : j + 1 = i
        · right
          intro hc
          have hu1 : u.1 = 1 := by
            by_cases z : u.1 = 1
            · exact z
            · rw [if_neg z] at hc; omega
          apply hp
          have hjj : i - 1 = j := by omega
          rw [hjj]
          have hlt : j < L.length := (List.getElem?_eq_some_iff.mp h1).1
          have := nth_in L j aU hlt
          rw [h1] at this
          unfold getL
          rw [← Option.some.inj this]
          exact hu1
        · left; exact hj
  · rcases set_mem hu with rfl | hu
    · trivial
    · rcases set_mem hu with rfl | hu
      · exact hv
      · exact h.2.2 u hu
/-- what an array's place holds -/
def av (w : WD) (k : Nat) (x : Int) : Value := match k with
  | 51 => .long (i64 x)
  | 54 => cR w x
  | _ => .int (i32 x)
def okA (k : Nat) (x : Int) : Prop := match k with
  | 50 => r32 x
  | 51 => r64 x
  | 52 => -128 ≤ x ∧ x < 128
  | 53 => x = 0 ∨ x = 1
  | _ => True
def okF (t z : Nat) (x : Int) : Prop := match t with
  | 0 => r32 x ∧ (z = 0 ∨ x = 0 ∨ x = 1)
  | 1 => r64 x
  | _ => True
def fv (w : WD) (ci : Nat) (sa ra : Int → Int) (k : Nat) : Value := cV w ((fd ci k).2.2.2.1, if (fd ci k).2.2.2.1 = 2 then ra k else sa k)
def CR (D : DD) (w : WD) (q : Nat × Int) (sa ra : Int → Int) (H : Heap) (ad : Nat) : Prop :=
  (q.1 < 13 ∧ q.2 = nF q.1 ∧ t_OB ad (D.1 q.1) (nF q.1) (D.2.1 q.1) H (fv w q.1 sa ra) ∧ ∀ k : Nat, k < nF q.1 → okF (fd q.1 k).2.2.2.1 (fd q.1 k).2.2.2.2 (sa k)) ∨
  (50 ≤ q.1 ∧ q.1 ≤ 54 ∧ 0 ≤ q.2 ∧ q.2 ≤ 10000 ∧ H[ad]? = some (arrV (D.2.2 q.1) q.2.toNat (fun j => av w q.1 (sa j))) ∧ ∀ j : Nat, j < q.2.toNat → okA q.1 (sa j))
/-- the script -/
def SC (w : WD) (f : Int → Int) (n : Int) : Prop := 0 ≤ n ∧ n ≤ 3072 ∧ ∃ scr : Cell, w.2.2.2[w.1]? = some scr ∧ scr.vm ≠ .unknown ∧ scr.slots.size = n.toNat ∧ ∀ j : Nat, j < n.toNat → scr.slots[j]? = some (.int (i32 (f j))) ∧ r32 (f j)
abbrev at0 (sh : List (Nat × Int)) (k : Nat) : Nat × Int := nth sh k (99, 0)
def MR (D : DD) (w : WD) (M : AM) (H : Heap) : Prop :=
  (2 ≤ M.2.2.length ∧ H.size = w.2.2.1 + (M.2.2.length - 2) ∧ (at0 M.2.2 0).1 = 99 ∧ (at0 M.2.2 1).1 = 55) ∧ ((∀ q : Nat, q < w.2.2.1 → H[q]? = w.2.2.2[q]?) ∧ w.1 < w.2.2.1 ∧ SC w (M.1 1) (at0 M.2.2 1).2) ∧
  ∀ k : Nat, 2 ≤ k → k < M.2.2.length → CR D w (at0 M.2.2 k) (M.1 k) (M.2.1 k) H (w.2.2.1 + (k - 2))
theorem CR.kept {D : DD} {w : WD} {q : Nat × Int} {sa ra : Int → Int} {H H' : Heap} {ad : Nat} (h : CR D w q sa ra H ad) (e : H'[ad]? = H[ad]?) : CR D w q sa ra H' ad := by
  rcases h with ⟨h1, h2, h3, h4⟩ | ⟨h1, h2, h3, h4, h5, h6⟩
  · exact Or.inl ⟨h1, h2, h3.kept e, h4⟩
  · exact Or.inr ⟨h1, h2, h3, h4, by rw [e]; exact h5, h6⟩
/-- a reference of a kind that isn't nothing's nor the script's stands for a new cell -/
theorem kd_at {D : DD} {w : WD} {M : AM} {H : Heap} (h : MR D w M H) {a : Int} {K : Nat} (hk : kd M.2.2 a = K) (h1 : K ≠ 99) (h2 : K ≠ 55) :
    ∃ k : Nat, a = k ∧ 2 ≤ k ∧ k < M.2.2.length ∧ cad w a = w.2.2.1 + (k - 2) ∧ cR w a = .ref (w.2.2.1 + (k - 2)) ∧ (at0 M.2.2 k).1 = K ∧ ln M.2.2 a = (at0 M.2.2 k).2 ∧ CR D w (at0 M.2.2 k) (M.1 a) (M.2.1 a) H (w.2.2.1 + (k - 2)) := by
  obtain ⟨⟨m1, m2, m3, m4⟩, -, m6⟩ := h
  have e0 : a.toNat ≠ 0 := fun e => h1 (by rw [← hk]; unfold kd; rw [e]; exact m3)
  have e1 : a.toNat ≠ 1 := fun e => h2 (by rw [← hk]; unfold kd; rw [e]; exact m4)
  have e2 : a.toNat < M.2.2.length := by
    rcases Nat.lt_or_ge a.toNat M.2.2.length with q | q
    · exact q
    · exact absurd (by rw [← hk]; unfold kd; rw [nth_out _ _ _ q]) h1
  have ea : a = (a.toNat : Int) := by omega
  have ec : cad w a = w.2.2.1 + (a.toNat - 2) := by unfold cad; rw [if_neg (by omega)]
  refine ⟨a.toNat, ea, by omega, e2, ec, by unfold cR; rw [if_neg (by omega), ec], hk, rfl, ?_⟩
  have := m6 a.toNat (by omega) e2
  rwa [← ea] at this
theorem kd_arr {D : DD} {w : WD} {M : AM} {H : Heap} (h : MR D w M H) {a : Int} {K : Nat} (hk : kd M.2.2 a = K) (h1 : 50 ≤ K) (h2 : K ≤ 54) :
    ∃ k : Nat, a = k ∧ 2 ≤ k ∧ k < M.2.2.length ∧ cR w a = .ref (w.2.2.1 + (k - 2)) ∧ (at0 M.2.2 k).1 = K ∧ 0 ≤ ln M.2.2 a ∧ ln M.2.2 a ≤ 10000 ∧ (at0 M.2.2 k).2 = ln M.2.2 a ∧ H[w.2.2.1 + (k - 2)]? = some (arrV (D.2.2 K) (ln M.2.2 a).toNat (fun j => av w K (M.1 a j))) ∧ ∀ j : Nat, j < (ln M.2.2 a).toNat → okA K (M.1 a j) := by
  obtain ⟨k, ea, k1, k2, -, k4, k5, k6, k7⟩ := kd_at h hk (by omega) (by omega)
  rcases k7 with ⟨q1, -⟩ | ⟨q1, q2, q3, q4, q5, q6⟩
  · rw [k5] at q1; omega
  · rw [k5] at q5 q6
    rw [← k6] at q3 q4 q5 q6
    exact ⟨k, ea, k1, k2, k4, k5, q3, q4, k6.symm, q5, q6⟩
theorem kd_obj {D : DD} {w : WD} {M : AM} {H : Heap} (h : MR D w M H) {a : Int} {K : Nat} (hk : kd M.2.2 a = K) (h1 : K < 13) :
    ∃ k : Nat, a = k ∧ 2 ≤ k ∧ k < M.2.2.length ∧ cR w a = .ref (w.2.2.1 + (k - 2)) ∧ (at0 M.2.2 k) = (K, (nF K : Int)) ∧ t_OB (w.2.2.1 + (k - 2)) (D.1 K) (nF K) (D.2.1 K) H (fv w K (M.1 a) (M.2.1 a)) ∧ ∀ j : Nat, j < nF K → okF (fd K j).2.2.2.1 (fd K j).2.2.2.2 (M.1 a j) := by
  obtain ⟨k, ea, k1, k2, -, k4, k5, k6, k7⟩ := kd_at h hk (by omega) (by omega)
  rcases k7 with ⟨q1, q2, q3, q4⟩ | ⟨q1, q2, -⟩
  · rw [k5] at q2 q3 q4
    exact ⟨k, ea, k1, k2, k4, Prod.ext k5 q2, q3, q4⟩
  · rw [k5] at q1; omega
/-- one cell is written -/
theorem MR.wr {D : DD} {w : WD} {M : AM} {H H' : Heap} (h : MR D w M H) {a : Int} {k : Nat} (ea : a = k) (k1 : 2 ≤ k) (hz : H'.size = H.size) (ho : ∀ q : Nat, q ≠ w.2.2.1 + (k - 2) → H'[q]? = H[q]?) {σ rf : Int → Int → Int}
    (hσ : ∀ a' : Int, a' ≠ a → σ a' = M.1 a') (hrf : ∀ a' : Int, a' ≠ a → rf a' = M.2.1 a') (hc : CR D w (at0 M.2.2 k) (σ a) (rf a) H' (w.2.2.1 + (k - 2))) : MR D w (σ, rf, M.2.2) H' := by
  obtain ⟨⟨m1, m2, m3, m4⟩, ⟨m5, m7, m8⟩, m6⟩ := h
  refine ⟨⟨m1, by rw [hz]; exact m2, m3, m4⟩, ⟨fun q hq => by rw [ho q (by omega)]; exact m5 q hq, m7, ?_⟩, fun j j1 j2 => ?_⟩
  · show SC w (σ 1) _
    rw [hσ 1 (by omega)]
    exact m8
  · show CR D w _ (σ j) (rf j) H' _
    by_cases e : j = k
    · rw [e, ← ea]; exact hc
    · rw [hσ j (by omega), hrf j (by omega)]
      exact (m6 j j1 j2).kept (ho _ (by omega))
/-- a cell comes -/
theorem MR.add {D : DD} {w : WD} {M : AM} {H H' : Heap} (h : MR D w M H) (hz : H'.size = H.size + 1) (ho : ∀ q : Nat, q < H.size → H'[q]? = H[q]?) {σ rf : Int → Int → Int} {c : Nat × Int}
    (hσ : ∀ a' : Int, a' ≠ (M.2.2.length : Int) → σ a' = M.1 a') (hrf : ∀ a' : Int, a' ≠ (M.2.2.length : Int) → rf a' = M.2.1 a') (hc : CR D w c (σ M.2.2.length) (rf M.2.2.length) H' H.size) : MR D w (σ, rf, M.2.2 ++ [c]) H' := by
  obtain ⟨⟨m1, m2, m3, m4⟩, ⟨m5, m7, m8⟩, m6⟩ := h
  have hn : ∀ j : Nat, j < M.2.2.length → at0 (M.2.2 ++ [c]) j = at0 M.2.2 j := by
    intro j hj
    have e1 := nth_in (M.2.2 ++ [c]) j (99, 0) (by simp; omega)
    have e2 := nth_in M.2.2 j (99, 0) hj
    rw [List.getElem?_append_left hj, e2] at e1
    exact (Option.some.inj e1).symm
  have hl : at0 (M.2.2 ++ [c]) M.2.2.length = c := by
    have e1 := nth_in (M.2.2 ++ [c]) M.2.2.length (99, 0) (by simp)
    simp at e1
    exact e1.symm
  refine ⟨⟨by simp; omega, by simp; omega, by rw [hn 0 (by omega)]; exact m3, by rw [hn 1 (by omega)]; exact m4⟩, ⟨fun q hq => by rw [ho q (by omega)]; exact m5 q hq, m7, ?_⟩, fun j j1 j2 => ?_⟩
  · show SC w (σ 1) _
    rw [hσ 1 (by omega), hn 1 (by omega)]
    exact m8
  · show CR D w _ (σ j) (rf j) H' _
    have j2' : j < M.2.2.length + 1 := by simpa using j2
    by_cases e : j = M.2.2.length
    · rw [e, hl, show w.2.2.1 + (M.2.2.length - 2) = H.size by omega]; exact hc
    · rw [hσ j (by omega), hrf j (by omega), hn j (by omega)]
      exact (m6 j j1 (by omega)).kept (ho _ (by omega))
end
