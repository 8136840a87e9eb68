/-! THE SIMULATION -/
noncomputable section
theorem sim (l : Launch) : ∀ (n d m pc : Nat) (L S : List AV) (M : AM) (r : AV) (M' : AM), wpF n d m pc L S M (fun x y => x = r ∧ y = M') →
    ∀ {p : Program} {e : Env} {R : Room} {s : State} {mid : MethodId} {args : Array Value} {below : List Frame} {meth : Method} {c : Code} {D : DD} {w : WD} {k0 j0 : Nat} {Q : State → Prop}, Fr p s mid args meth c D w m →
      (d + 5 ≤ R.frames ∧ d * 60 + 120 ≤ R.locals ∧ M'.2.2.length ≤ k0 + R.cells ∧ sl M'.2.2 ≤ j0 + R.slots) → RK p l e R s mid args below meth c D w m k0 j0 Q r M' → KW p l e R s mid args below meth c D w m k0 j0 Q pc L S M := by
  intro n
  induction n with
  | zero => intro d m pc L S M r M' h; exact absurd h id
  | succ n ih =>
    intro d m pc L S M r M' h p e R s mid args below meth c D w k0 j0 Q hf hR hk
    have hg := wpF_grow _ _ _ _ _ _ _ _ _ h
    have hg1 := hg.1
    have hg2 := hg.2
    refine ⟨⟨by omega, by omega⟩, fun H locs cells slots ls hs => ?_⟩
    have hs' : St D w m k0 j0 (kL m pc L) S M H locs cells slots ls := ⟨hs.1.kill, hs.2⟩
    refine sim_step hf hs' ⟨by omega, by omega⟩ ?_
    rw [wpF_s] at h
    rw [actK_nat]
    cases ha : act (fetch m pc).1 (kL m pc L) S M with
    | inl q =>
      obtain ⟨pc', l', s', M1⟩ := q
      rw [ha] at h
      exact ih _ _ _ _ _ _ _ _ h hf hR hk
    | inr q =>
      cases q with
      | inl q =>
        obtain ⟨r1, M1⟩ := q
        rw [ha] at h
        obtain ⟨h1, h2⟩ := h
        subst h1
        subst h2
        exact hk
      | inr q =>
        cases q with
        | inl q =>
          obtain ⟨y, l', nx, s', rt⟩ := q
          rw [ha] at h
          cases d with
          | zero => exact absurd h id
          | succ d =>
            obtain ⟨r1, M1, h1, k1⟩ := wpF_det _ _ _ _ _ _ _ _ h
            have hy := k1 (fun x y => x = r1 ∧ y = M1) ⟨rfl, rfl⟩
            have g1 := wpF_grow _ _ _ _ _ _ _ _ _ hy
            obtain ⟨s2, h2, -⟩ := retK_at h1
            have g2 := wpF_grow _ _ _ _ _ _ _ _ _ h2
            have g11 := g1.1
            have g12 := g1.2
            have g21 := g2.1
            have g22 := g2.2
            refine ⟨r1, M1, rm9 d (M1.2.2.length - M.2.2.length) (sl M1.2.2 - sl M.2.2), ⟨by show d + 5 + 1 ≤ _; omega, by show d * 60 + 120 + 60 ≤ _; omega, by show _ - _ + _ = _; omega, by show _ - _ + _ = _; omega, by omega, by omega⟩, fun As h311 hL hw ho => ?_, retK_mono (fun S2 h3 => ih _ _ _ _ _ _ _ _ h3 hf hR hk) h1⟩
            refine Met.ofW (cc := mB y) (maxL := mX y) (ret := mR y) (mp_words h311.1 h311.2).2.2.2.1 rfl ?_
            intro p2 e2 s2 mid2 args2 below2 meth2 c2 s12 B hml hP
            obtain ⟨ha2, hM, hcx⟩ := hP
            have hf2 : Fr p2 s2 mid2 args2 meth2 c2 D w y := ⟨B.exec, B.bytes, hml, findClass_of_methodNamed B.named, fun wd hwd => atoms_spec (ws := wsY y) B.pre wd (List.mem_cons_of_mem _ hwd), hcx, fun _ => (name_of_methodNamed B.named B.method).1⟩
            have hKW := ih d y 0 l' [] M r1 M1 hy (below := below2) (e := e2) (R := (headSpec (wsY y) (rm9 d (M1.2.2.length - M.2.2.length) (sl M1.2.2 - sl M.2.2))).room) hf2 (k0 := M.2.2.length) (j0 := sl M.2.2) ⟨Nat.le_refl _, Nat.le_refl _, by show _ ≤ _ + (_ - _); omega, by show _ ≤ _ + (_ - _); omega⟩ (rk_meth hf2 B.returns B.notSynchronized (mc := M1.2.2.length - M.2.2.length) (ms := sl M1.2.2 - sl M.2.2) (by omega) (by omega))
            have eF : entryFrame mid2 args2 (mX y) = F0 mid2 0 ((lg_sl (As.map (cV w)) ++ List.replicate (mX y - (lg_sl (As.map (cV w))).length) Slot.unset).toArray) [] := by rw [ha2, lg_entry_eq]
            rw [eF]
            have hL : l' = padTo (mX y) (expand As) := hL
            exact hKW.2 s2.heap [] 0 0 _ ⟨by rw [hL]; exact entry_LR hw ho, hM, fun _ h => absurd h List.not_mem_nil, fun _ h => absurd h List.not_mem_nil, by omega, by omega⟩
        | inr q => rw [ha] at h; exact absurd h id
end
