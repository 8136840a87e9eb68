noncomputable section
set_option maxRecDepth 20000
/-! a clause's parts, out of tokens -/
abbrev BAns : Type := (List Int × List Tok) ⊕ (Int × Int)
def figF (n m : Int) (l : List Tok) (k : Int → List Tok → BAns) : BAns := match l with
  | [] => .inr (1, n)
  | t :: r => if t.1 = 2 then (if t.2.1 ≤ m then k t.2.1 r else .inr (2, t.2.2)) else .inr (1, t.2.2)
def wrdF (n v : Int) (l : List Tok) (k : List Tok → BAns) : BAns := match l with
  | [] => .inr (1, n)
  | t :: r => if t.1 = 1 ∧ t.2.1 = v then k r else .inr (1, t.2.2)
def mkO (t : Tok) : Int := if t.1 = 1 then (if t.2.1 = 19 then 1 else if t.2.1 = 20 then 2 else if t.2.1 = 21 then 4 else 0) else 0
abbrev cm (t : Tok) : Prop := t.1 = 3 ∧ t.2.1 = 44
def mrkF (n : Int) (k : Int → List Tok → BAns) : List Tok → Int → BAns
  | [], acc => k acc []
  | [t], acc => if cm t then .inr (1, n) else k acc [t]
  | t :: u :: r, acc => if cm t then (if mkO u = 0 then .inr (1, u.2.2) else if bA acc (mkO u) = 0 then mrkF n k r (bO acc (mkO u)) else .inr (4, u.2.2)) else k acc (t :: u :: r)
def kdF (n : Int) (k : Int → List Tok → BAns) : List Tok → Int → BAns
  | [], _ => .inr (1, n)
  | [t], set => if t.1 = 2 then (if t.2.1 ≤ 9 then (if tb set t.2.1 = true then .inr (4, t.2.2) else k (bO set (sL 1 t.2.1)) []) else .inr (2, t.2.2)) else .inr (1, t.2.2)
  | t :: u :: r, set => if t.1 = 2 then (if t.2.1 ≤ 9 then (if tb set t.2.1 = true then .inr (4, t.2.2) else (if cm u then kdF n k r (bO set (sL 1 t.2.1)) else k (bO set (sL 1 t.2.1)) (u :: r))) else .inr (2, t.2.2)) else .inr (1, t.2.2)
def bodyF (n w : Int) (l : List Tok) : BAns :=
  if w = 4 then figF n 999 l (fun v r => .inl ([v], r))
  else if w = 5 then figF n 9 l (fun x r => wrdF n 18 r (fun r => figF n 99 r (fun y r => wrdF n 13 r (fun r => figF n 5 r (fun z r => mrkF n (fun m r => .inl ([x, y, z, m], r)) r 0)))))
  else if w = 6 then kdF n (fun m r => .inl ([m], r)) l 0
  else if w = 7 then figF n 5 l (fun x r => wrdF n 14 r (fun r => figF n 5 r (fun y r => wrdF n 15 r (fun r => figF n 99 r (fun z r => .inl ([x, y, z], r))))))
  else if w = 8 then figF n 5 l (fun v r => .inl ([v], r))
  else if w = 9 then figF n 23 l (fun v r => .inl ([v], r))
  else if w = 10 ∨ w = 11 then figF n 7 l (fun v r => .inl ([v], r))
  else .inl ([], l)
/-! the class reads them -/
/-- a fault was found -/
def Dd (s s' : Sg) (f p : Int) : Prop := Sm [60, 64, 65] s s' ∧ (∀ i, i ≠ 1 → i ≠ 2 → s' 60 i = s 60 i) ∧ s' 60 1 = f ∧ s' 60 2 = p
def Al (s s' : Sg) (n : Int) (l : List Tok) : Prop := Sm [64, 65] s s' ∧ CTk s' n l ∧ s' 60 1 = 0
theorem al_r {s : Sg} {n : Int} {l : List Tok} (h : CTk s n l) (h0 : s 60 1 = 0) : Al s s n l := ⟨sm_r _ _, h, h0⟩
theorem al_64 {s s' : Sg} {n i v : Int} {l : List Tok} (h : Al s s' n l) : Al s (up s' 64 i v) n l := ⟨sm_u h.1 (by simp), ctk_c h.2.1 (fun a a0 a1 => up_c (by omega)), by rw [up_c (by decide)]; exact h.2.2⟩
theorem dd_64 {s s' : Sg} {f p i v : Int} (h : Dd s s' f p) : Dd s (up s' 64 i v) f p := ⟨sm_u h.1 (by simp), by rw [up_c (by decide)]; exact h.2.1, by rw [up_c (by decide)]; exact h.2.2.1, by rw [up_c (by decide)]; exact h.2.2.2⟩
theorem dd_b {s s' : Sg} {n f : Int} {l : List Tok} (h : Al s s' n l) : Dd s (up (up s' 60 1 f) 60 2 (s' 65 9)) f (plc n l) := by
  refine ⟨sm_u (sm_u (sm_m h.1 (by simp)) (by simp)) (by simp), fun i h1 h2 => by rw [up_i h2, up_i h1, h.1 60 (by decide)], by rw [up_i (by decide), up_s], ?_⟩
  rw [up_s]; exact ctk_9 h.2.1
theorem c_fig {D : Nat} {s0 s : Sg} {T : TT} {P : Int → AM → Prop} {n m : Int} {l : List Tok} (h : Al s0 s n l) (ok : ∀ v r s', (∀ k, figF n m l k = k v r) → 0 ≤ v → v ≤ m → Al s0 s' n r → s' 64 = s 64 → P v (mk s' T)) (er : ∀ f p s', (∀ k, figF n m l k = .inr (f, p)) → f ≠ 0 → Dd s0 s' f p → P 0 (mk s' T)) : wpI (D + 1) 150 0 [aR 60, aI m, aU] [] (mk s T) P := by
  refine c_readNumber h.2.1 h.2.2 (fun v st r s' e v0 vm e' t' => ?_) (fun v st r e vm => ?_) (fun no => ?_)
  · subst e
    refine ok v r s' (fun k => ?_) v0 vm ⟨sm_t h.1 (sm_m e' (by simp)), t', by rw [e' 60 (by decide)]; exact h.2.2⟩ (e' 64 (by decide))
    show (if (2 : Int) = 2 then (if v ≤ m then k v r else .inr (2, st)) else .inr (1, st)) = _
    rw [if_pos rfl, if_pos vm]
  · subst e
    refine er 2 st _ (fun k => ?_) (by decide) (dd_b h)
    show (if (2 : Int) = 2 then (if v ≤ m then k v r else .inr (2, st)) else .inr (1, st)) = _
    rw [if_pos rfl, if_neg (by omega)]
  · refine er 1 (plc n l) _ (fun k => ?_) (by decide) (dd_b h)
    cases l with
    | nil => rfl
    | cons t r =>
      obtain ⟨t1, t2, t3⟩ := t
      show (if t1 = 2 then _ else _) = _
      rw [if_neg (fun q => no t2 t3 r (by rw [q]))]; rfl
theorem c_figD {D : Nat} {s : Sg} {T : TT} {P : Int → AM → Prop} {m : Int} (h : ¬ s 60 1 = 0) (k : P 0 (mk s T)) : wpI (D + 1) 150 0 [aR 60, aI m, aU] [] (mk s T) P := g_Reader_readNumber_0 (ci (fun _ => ci (fun _ => cf h k) (fun _ => cf h k)) (fun _ => cf h k))
theorem c_wrd {D : Nat} {s0 s : Sg} {T : TT} {P : AM → Prop} {n v : Int} {l : List Tok} (h : Al s0 s n l) (ok : ∀ r s', (∀ k, wrdF n v l k = k r) → Al s0 s' n r → s' 64 = s 64 → P (mk s' T)) (er : ∀ f p s', (∀ k, wrdF n v l k = .inr (f, p)) → f ≠ 0 → Dd s0 s' f p → P (mk s' T)) : wpV (D + 1) 156 0 [aR 60, aI v] [] (mk s T) P := by
  have c := ctk_cur h.2.1
  have no : (∀ k, wrdF n v l k = .inr (1, (plc n l))) → P (mk (up (up s 60 1 1) 60 2 (s 65 9)) T) := fun e => er 1 _ _ e (by decide) (dd_b h)
  refine g_Reader_expectWord_0 ?_
  cases l with
  | nil =>
    have c1 : s 65 8 = 0 := c.1
    exact cf (by omega) (ct h.2.2 (no (fun _ => rfl)))
  | cons t r =>
    obtain ⟨t1, t2, t3⟩ := t
    have c1 : s 65 8 = t1 := c.1
    have c3 : s 65 10 = t2 := c.2.2
    rw [c1, c3]
    refine ci (fun q1 => ci (fun q2 => ct h.2.2 (c_advance h.2.1 (fun s' e' t' => g_Reader_expectWord_44 (ok r s' (fun k => ?_) ⟨sm_t h.1 (sm_m e' (by simp)), t', by rw [e' 60 (by decide)]; exact h.2.2⟩ (e' 64 (by decide)))))) (fun q2 => ct h.2.2 (no (fun k => ?_)))) (fun q1 => ct h.2.2 (no (fun k => ?_)))
    · show (if t1 = 1 ∧ t2 = v then k r else _) = _
      rw [if_pos ⟨q1, q2⟩]
    · show (if t1 = 1 ∧ t2 = v then k r else _) = _
      rw [if_neg (fun q => q2 q.2)]; rfl
    · show (if t1 = 1 ∧ t2 = v then k r else _) = _
      rw [if_neg (fun q => q1 q.1)]; rfl
theorem c_wrdD {D : Nat} {s : Sg} {T : TT} {P : AM → Prop} {v : Int} (h : ¬ s 60 1 = 0) (k : P (mk s T)) : wpV (D + 1) 156 0 [aR 60, aI v] [] (mk s T) P := g_Reader_expectWord_0 (ci (fun _ => ci (fun _ => cf h k) (fun _ => cf h k)) (fun _ => cf h k))
/-! marks -/
def nb3 (x : Int) : Int := x % 2 + x / 2 % 2 + x / 4
theorem mk_k : ∀ x : Fin 8, ∀ m : Fin 5, (m.1 = 1 ∨ m.1 = 2 ∨ m.1 = 4) → bAc (x.1 : Int) (m.1 : Int) = 0 → 0 ≤ bOc (x.1 : Int) (m.1 : Int) ∧ bOc (x.1 : Int) (m.1 : Int) < 8 ∧ nb3 (bOc (x.1 : Int) (m.1 : Int)) = nb3 (x.1 : Int) + 1 := by decide +kernel
theorem mk_o {x m : Int} (x0 : 0 ≤ x) (x8 : x < 8) (hm : m = 1 ∨ m = 2 ∨ m = 4) (h : bA x m = 0) : 0 ≤ bO x m ∧ bO x m < 8 ∧ nb3 (bO x m) = nb3 x + 1 := by
  have := mk_k ⟨x.toNat, by omega⟩ ⟨m.toNat, by omega⟩ (by simp only; omega)
  simp only [show ((x.toNat : Nat) : Int) = x from by omega, show ((m.toNat : Nat) : Int) = m from by omega] at this
  rw [bA_d] at h
  rw [bO_d]
  exact this h
theorem c_readMark {D : Nat} {s0 s : Sg} {T : TT} {P : Int → AM → Prop} {n acc : Int} {l : List Tok} (h : Al s0 s n l) (ok : ∀ u r s', l = u :: r → mkO u ≠ 0 → bA acc (mkO u) = 0 → (mkO u = 1 ∨ mkO u = 2 ∨ mkO u = 4) → Al s0 s' n r → s' 64 = s 64 → P (mkO u) (mk s' T)) (er1 : ∀ s', (∀ u r, l = u :: r → mkO u = 0) → Dd s0 s' 1 (plc n l) → s' 64 = s 64 → P 0 (mk s' T)) (er4 : ∀ u r s', l = u :: r → mkO u ≠ 0 → ¬ bA acc (mkO u) = 0 → Dd s0 s' 4 u.2.2 → s' 64 = s 64 → P (mkO u) (mk s' T)) : wpI (D + 1) 158 0 [aR 60, aI acc, aU] [] (mk s T) P := by
  have c := ctk_cur h.2.1
  have h64 : ∀ f : Int, up (up s 60 1 f) 60 2 (s 65 9) 64 = s 64 := fun f => by rw [up_c (by decide), up_c (by decide)]
  have no : (∀ u r, l = u :: r → mkO u = 0) → P 0 (mk (up (up s 60 1 1) 60 2 (s 65 9)) T) := fun e => er1 _ e (dd_b h) (h64 1)
  refine g_Reader_readMark_0 ?_
  cases l with
  | nil =>
    have c1 : s 65 8 = 0 := c.1
    exact cf (by omega) (ct h.2.2 (no (fun u r e => by simp at e)))
  | cons t r =>
    obtain ⟨t1, t2, t3⟩ := t
    have c1 : s 65 8 = t1 := c.1
    have c3 : s 65 10 = t2 := c.2.2
    rw [c1, c3]
    have one : ∀ m : Int, (m = 1 ∨ m = 2 ∨ m = 4) → mkO (t1, t2, t3) = m → brK (decide (bA acc m = 0)) (wpV D 172 0 [aR 65, aU] [] (mk s T) (fun M' => wpI (D + 1) 158 59 [aR 60, aI acc, aI m] [] M' P)) (brK (decide (s 60 1 = 0)) (P m (mk (up (up s 60 1 4) 60 2 (s 65 9)) T)) (P m (mk s T))) := fun m hm em => by
      have mz : mkO (t1, t2, t3) ≠ 0 := by rw [em]; omega
      refine ci (fun q => c_advance h.2.1 (fun s' e' t' => g_Reader_readMark_59 ?_)) (fun q => ct h.2.2 ?_)
      · have := ok (t1, t2, t3) r s' rfl mz (by rw [em]; exact q) (by rw [em]; exact hm) ⟨sm_t h.1 (sm_m e' (by simp)), t', by rw [e' 60 (by decide)]; exact h.2.2⟩ (e' 64 (by decide))
        rw [em] at this; exact this
      · have := er4 (t1, t2, t3) r _ rfl mz (by rw [em]; exact q) (dd_b h) (h64 4)
        rw [em] at this; exact this
    have z : mkO (t1, t2, t3) = if t1 = 1 then (if t2 = 19 then 1 else if t2 = 20 then 2 else if t2 = 21 then 4 else 0) else 0 := rfl
    refine ci (fun q1 => ci (fun q2 => one 1 (Or.inl rfl) (by rw [z, if_pos q1, if_pos q2])) (fun q2 => ci (fun q3 => one 2 (Or.inr (Or.inl rfl)) (by rw [z, if_pos q1, if_neg q2, if_pos q3])) (fun q3 => ci (fun q4 => one 4 (Or.inr (Or.inr rfl)) (by rw [z, if_pos q1, if_neg q2, if_neg q3, if_pos q4])) (fun q4 => ct h.2.2 (no (fun u r' e => ?_)))))) (fun q1 => ct h.2.2 (no (fun u r' e => ?_)))
    · simp only [List.cons.injEq] at e
      rw [← e.1, z, if_pos q1, if_neg q2, if_neg q3, if_neg q4]
    · simp only [List.cons.injEq] at e
      rw [← e.1, z, if_neg q1]
theorem c_readMarks {D : Nat} {s0 : Sg} {T : TT} {P : Int → AM → Prop} {n : Int} : ∀ (j : Nat) (l : List Tok), l.length ≤ j → ∀ (acc i : Int) (s : Sg), Al s0 s n l → 0 ≤ acc → acc < 8 → 0 ≤ i → i ≤ nb3 acc → (∀ m r s', (∀ k, mrkF n k l acc = k m r) → Al s0 s' n r → s' 64 = s 64 → P m (mk s' T)) → (∀ f p m s', (∀ k, mrkF n k l acc = .inr (f, p)) → f ≠ 0 → Dd s0 s' f p → s' 64 = s 64 → P m (mk s' T)) → wpI (D + 2) 157 4 [aR 60, aI acc, aI i] [] (mk s T) P := by
  intro j
  induction j with
  | zero =>
    intro l hl acc i s h a0 a8 i0 i1 ok er
    have : l = [] := List.length_eq_zero_iff.mp (by omega)
    subst this
    have c := ctk_cur h.2.1
    have c1 : s 65 8 = 0 := c.1
    have fin := ok acc [] s (fun k => rfl) h rfl
    exact g_Reader_readMarks_4 (ci (fun _ => ct h.2.2 (cf (by omega) fin)) (fun _ => fin))
  | succ j ih =>
    intro l hl acc i s h a0 a8 i0 i1 ok er
    have n3 : nb3 acc ≤ 3 := by unfold nb3; omega
    have c := ctk_cur h.2.1
    cases l with
    | nil =>
      have c1 : s 65 8 = 0 := c.1
      have fin := ok acc [] s (fun k => rfl) h rfl
      exact g_Reader_readMarks_4 (ci (fun _ => ct h.2.2 (cf (by omega) fin)) (fun _ => fin))
    | cons t r =>
      have c1 : s 65 8 = t.1 := c.1
      have c3 : s 65 10 = t.2.1 := c.2.2
      have stop : ¬ cm t → P acc (mk s T) := fun hc => ok acc (t :: r) s (fun k => by
        cases r with
        | nil => show (if cm t then _ else _) = _; rw [if_neg hc]
        | cons u r => show (if cm t then _ else _) = _; rw [if_neg hc]) h rfl
      refine g_Reader_readMarks_4 (ct (by omega) (ct h.2.2 ?_))
      rw [c1, c3]
      refine ci (fun q1 => ci (fun q2 => ?_) (fun q2 => stop (fun q => q2 q.2))) (fun q1 => stop (fun q => q1 q.1))
      have hc : cm t := ⟨q1, q2⟩
      refine c_advance h.2.1 (fun s1 e1 t1 => g_Reader_readMarks_25 ?_)
      have h1 : Al s0 s1 n r := ⟨sm_t h.1 (sm_m e1 (by simp)), t1, by rw [e1 60 (by decide)]; exact h.2.2⟩
      have dead : ∀ (f p : Int) (m : Int) (s2 : Sg), (∀ k, mrkF n k (t :: r) acc = .inr (f, p)) → f ≠ 0 → Dd s0 s2 f p → s2 64 = s1 64 → wpI (D + 2) 157 31 [aR 60, aI acc, aI i] [aI m, aI acc] (mk s2 T) P := fun f p m s2 e hf hd e64 => by
        have fin := fun m => er f p m s2 e hf hd (by rw [e64, e1 64 (by decide)])
        refine g_Reader_readMarks_31 (g_Reader_readMarks_4 (ci (fun _ => cf (by rw [hd.2.2.1]; exact hf) (fin _)) (fun _ => fin _)))
      refine c_readMark (D := D) h1 (fun u r' s2 er' mz mb mm h2 e64 => g_Reader_readMarks_31 ?_) (fun s2 hz hd e64 => dead 1 (plc n r) 0 s2 (fun k => ?_) (by decide) hd e64) (fun u r' s2 er' mz mb hd e64 => dead 4 u.2.2 _ s2 (fun k => ?_) (by decide) hd e64)
      · subst er'
        simp only [List.length_cons] at hl
        obtain ⟨o1, o2, o3⟩ := mk_o a0 a8 mm mb
        rw [w32_id (x := i + 1) (by omega) (by omega)]
        have ek : ∀ k, mrkF n k (t :: u :: r') acc = mrkF n k r' (bO acc (mkO u)) := fun k => by
          show (if cm t then (if mkO u = 0 then _ else if bA acc (mkO u) = 0 then _ else _) else _) = _
          rw [if_pos hc, if_neg mz, if_pos mb]
        exact ih r' (by omega) (bO acc (mkO u)) (i + 1) s2 h2 o1 o2 (by omega) (by omega) (fun m r s' e h' e6 => ok m r s' (fun k => by rw [ek]; exact e k) h' (by rw [e6, e64, e1 64 (by decide)])) (fun f p m s' e hf h' e6 => er f p m s' (fun k => by rw [ek]; exact e k) hf h' (by rw [e6, e64, e1 64 (by decide)]))
      · cases r with
        | nil => show (if cm t then _ else _) = _; rw [if_pos hc]; rfl
        | cons u r =>
          show (if cm t then (if mkO u = 0 then _ else _) else _) = _
          rw [if_pos hc, if_pos (hz u r rfl)]; rfl
      · subst er'
        show (if cm t then (if mkO u = 0 then _ else if bA acc (mkO u) = 0 then _ else _) else _) = _
        rw [if_pos hc, if_neg mz, if_neg mb]
end
