/-! ONE LEMMA AN INSTRUCTION: stack, locals, jumps -/
noncomputable section
theorem brK_s {c : Prop} [Decidable c] {A B : Prop} (h : brK (decide c) A B) : (c → A) ∧ (¬ c → B) := by
  refine ⟨fun hc => ?_, fun hc => ?_⟩
  · rw [decide_eq_true hc] at h; exact h
  · rw [decide_eq_false hc] at h; exact h
theorem brK_b {b : Bool} {A : Prop} (h : brK b A False) : b = true ∧ A := by
  cases b with
  | true => exact ⟨rfl, h⟩
  | false => exact h.elim
theorem brK_n {b : Bool} {A : Prop} (h : brK b False A) : b = false ∧ A := by
  cases b with
  | true => exact h.elim
  | false => exact ⟨rfl, h⟩
theorem LR.nolong {w : WD} {ls : Array Slot} {n : Nat} {L : List AV} (h : LR w ls n L) {k : Nat} {x : Int} (hg : getL L k = (0, x)) : (getL L (k - 1)).1 ≠ 1 := by
  intro q
  cases k with
  | zero => rw [Nat.zero_sub, hg] at q; exact absurd (show (0 : Nat) = 1 from q) (by decide)
  | succ k =>
    rw [Nat.add_sub_cancel] at q
    have h1 := (h.get (i := k) rfl (by omega)).1
    have h2 := (h.get hg (Nat.le_of_ble_eq_true rfl)).1
    have h3 := h.1.2.1.1 k _ h1 (by rw [cV_cat, if_pos q])
    rw [h2] at h3
    cases h3
theorem i64_of32 {x : Int} (h : r32 x) : r64 x := by unfold r32 at h; unfold r64; omega
theorem cmpL_r (x y : Int) : r32 (cmpL x y) := by
  unfold cmpL r32; split
  · omega
  · split <;> omega
theorem cmpL_i {x y : Int} (hx : r64 x) (hy : r64 y) : lg_cmp (i64 x) (i64 y) = i32 (cmpL x y) := by
  unfold lg_cmp cmpL
  by_cases h1 : x < y
  · rw [if_pos h1, if_neg (by show ¬ i64 y < i64 x; rw [i64_lt hy hx]; omega), if_neg (by rw [i64_eq hx hy]; omega)]; rfl
  · rw [if_neg h1]
    by_cases h2 : x = y
    · rw [if_pos h2, if_neg (by show ¬ i64 y < i64 x; rw [i64_lt hy hx]; omega), if_pos (by rw [h2])]; rfl
    · rw [if_neg h2, if_pos (by show i64 y < i64 x; rw [i64_lt hy hx]; omega)]; rfl
theorem sR_r {x : Int} (hx : r32 x) (y : Int) : r32 (sR x y) := by
  rw [← i32_shr (y := y) hx]
  exact ⟨Int32.le_toInt _, Int32.toInt_lt _⟩
theorem i32_shr2 {x y : Int} (hx : r32 x) : i32 x >>> (i32 y &&& 31) = i32 (sR x y) := by
  refine i32_inj ?_
  rw [i32_shr hx, i32_t (sR_r hx y)]
theorem and31u (y : Int) : (((i32 y).toUInt32 &&& Int32.toUInt32 31).toBitVec % 32).toNat = (y % 32).toNat := by
  have h := and31 y
  have e : ((i32 y).toUInt32 &&& Int32.toUInt32 31).toBitVec = (i32 y &&& 31).toBitVec := rfl
  rw [e, BitVec.toNat_umod, h]
  have h2 : (y % 32).toNat < 32 := by omega
  show (y % 32).toNat % 32 = _
  omega
theorem i32_ushr (x y : Int) : ((i32 x).toUInt32 >>> ((i32 y).toUInt32 &&& Int32.toUInt32 31)).toInt32 = i32 (sU x y) := by
  refine i32_inj ?_
  rw [i32_t (sU_r x y), sU_d, i32_bv, pk_ushr _ _ _ (and31u y), i32_tn]; rfl
section
variable {p : Program} {l : Launch} {e : Env} {R : Room} {s : State} {mid : MethodId} {args : Array Value} {below : List Frame} {meth : Method} {c : Code} {D : DD} {w : WD} {m k0 j0 : Nat} {Q : State → Prop} {pc : Nat} {L S : List AV} {M : AM} {H : Heap} {locs : List Loc} {cells slots : Nat} {ls : Array Slot} {ax : List Nat} {cn : Int} {RR : AV → AM → Prop} {CC : Nat → List AV → Nat → List AV → Nat → Prop}
theorem s_iconst {n : Int} (hf : Fr p s mid args meth c D w m) (hs : St D w m k0 j0 L S M H locs cells slots ls) (hd : decode (mB m) pc = .ok (.iconst n, 1)) (hr : r32 n) (h : a_iconst n (pc + 1) ax cn L S M (KW p l e R s mid args below meth c D w m k0 j0 Q) RR CC False) : W p l e R s mid args below meth c H locs cells slots Q (F0 mid pc ls (S.map (cV w))) := by
  obtain ⟨hx, hb, -⟩ := hf
  unfold a_iconst at h
  exact lv_iconst (v := i32 n) hx hb hd rfl (st_go h hs (ok_c (show r32 n from hr) hs.2.2.1))
theorem bip {n : Int} (h : -128 ≤ n ∧ n < 128) : (Int8.ofInt n).toInt32 = i32 n := by
  refine i32_inj ?_
  rw [Int8.toInt_toInt32, i32_t ⟨by omega, by omega⟩]
  exact Int8.toInt_ofInt_of_le h.1 h.2
theorem s_bipush {n : Int} (hf : Fr p s mid args meth c D w m) (hs : St D w m k0 j0 L S M H locs cells slots ls) (hd : decode (mB m) pc = .ok (.bipush n, 2)) (hr : -128 ≤ n ∧ n < 128) (h : a_bipush n (pc + 2) ax cn L S M (KW p l e R s mid args below meth c D w m k0 j0 Q) RR CC False) : W p l e R s mid args below meth c H locs cells slots Q (F0 mid pc ls (S.map (cV w))) := by
  obtain ⟨hx, hb, -⟩ := hf
  unfold a_bipush at h
  exact lv_bipush (v := i32 n) hx hb hd (bip hr) (st_go h hs (ok_c (show r32 n from ⟨by omega, by omega⟩) hs.2.2.1))
theorem sip {n : Int} (h : -32768 ≤ n ∧ n < 32768) : (Int16.ofInt n).toInt32 = i32 n := by
  refine i32_inj ?_
  rw [Int16.toInt_toInt32, i32_t ⟨by omega, by omega⟩]
  exact Int16.toInt_ofInt_of_le h.1 h.2
theorem s_sipush {n : Int} (hf : Fr p s mid args meth c D w m) (hs : St D w m k0 j0 L S M H locs cells slots ls) (hd : decode (mB m) pc = .ok (.sipush n, 3)) (hr : -32768 ≤ n ∧ n < 32768) (h : a_sipush n (pc + 3) ax cn L S M (KW p l e R s mid args below meth c D w m k0 j0 Q) RR CC False) : W p l e R s mid args below meth c H locs cells slots Q (F0 mid pc ls (S.map (cV w))) := by
  obtain ⟨hx, hb, -⟩ := hf
  unfold a_sipush at h
  exact lv_sipush (v := i32 n) hx hb hd (sip hr) (st_go h hs (ok_c (show r32 n from ⟨by omega, by omega⟩) hs.2.2.1))
theorem lcn (n : Fin 2) : Int64.ofNat (n : Nat) = i64 (n.1 : Nat) := by
  match n with
  | 0 => rfl
  | 1 => rfl
theorem s_lconst {n : Fin 2} (hf : Fr p s mid args meth c D w m) (hs : St D w m k0 j0 L S M H locs cells slots ls) (hd : decode (mB m) pc = .ok (.lconst n, 1)) (h : a_lconst n (pc + 1) ax cn L S M (KW p l e R s mid args below meth c D w m k0 j0 Q) RR CC False) : W p l e R s mid args below meth c H locs cells slots Q (F0 mid pc ls (S.map (cV w))) := by
  obtain ⟨hx, hb, -⟩ := hf
  unfold a_lconst at h
  exact lv_lconst (v := i64 (n.1 : Nat)) hx hb hd (lcn n) (st_go h hs (ok_c (show r64 (n.1 : Nat) from by unfold r64; omega) hs.2.2.1))
theorem s_aconst_null (hf : Fr p s mid args meth c D w m) (hs : St D w m k0 j0 L S M H locs cells slots ls) (hd : decode (mB m) pc = .ok (.aconst_null, 1)) (h : a_aconst_null (pc + 1) ax cn L S M (KW p l e R s mid args below meth c D w m k0 j0 Q) RR CC False) : W p l e R s mid args below meth c H locs cells slots Q (F0 mid pc ls (S.map (cV w))) := by
  obtain ⟨hx, hb, -⟩ := hf
  unfold a_aconst_null at h
  exact lv_null hx hb hd (st_go h hs (ok_c (show okV (2, 0) from trivial) hs.2.2.1))
theorem s_iload_n {k : Fin 4} (hf : Fr p s mid args meth c D w m) (hs : St D w m k0 j0 L S M H locs cells slots ls) (hd : decode (mB m) pc = .ok (.iload_n k, 1)) (h : a_iload_n k (pc + 1) ax cn L S M (KW p l e R s mid args below meth c D w m k0 j0 Q) RR CC False) : W p l e R s mid args below meth c H locs cells slots Q (F0 mid pc ls (S.map (cV w))) := by
  obtain ⟨hx, hb, -⟩ := hf
  unfold a_iload_n at h
  split at h
  · rename_i x hg0
    have hg := hs.1.get hg0 (Nat.le_of_ble_eq_true rfl)
    exact lv_iload_n hx hb hd rfl (hg.1) (st_go h hs (ok_c hg.2 hs.2.2.1))
  · exact h.elim
theorem s_iload {k : Nat} (hf : Fr p s mid args meth c D w m) (hs : St D w m k0 j0 L S M H locs cells slots ls) (hd : decode (mB m) pc = .ok (.iload k, 2)) (h : a_iload k (pc + 2) ax cn L S M (KW p l e R s mid args below meth c D w m k0 j0 Q) RR CC False) : W p l e R s mid args below meth c H locs cells slots Q (F0 mid pc ls (S.map (cV w))) := by
  obtain ⟨hx, hb, -⟩ := hf
  unfold a_iload at h
  split at h
  · rename_i x hg0
    have hg := hs.1.get hg0 (Nat.le_of_ble_eq_true rfl)
    exact lv_iload hx hb hd (hg.1) (st_go h hs (ok_c hg.2 hs.2.2.1))
  · exact h.elim
theorem s_lload_n {k : Fin 4} (hf : Fr p s mid args meth c D w m) (hs : St D w m k0 j0 L S M H locs cells slots ls) (hd : decode (mB m) pc = .ok (.lload_n k, 1)) (h : a_lload_n k (pc + 1) ax cn L S M (KW p l e R s mid args below meth c D w m k0 j0 Q) RR CC False) : W p l e R s mid args below meth c H locs cells slots Q (F0 mid pc ls (S.map (cV w))) := by
  obtain ⟨hx, hb, -⟩ := hf
  unfold a_lload_n at h
  split at h
  · rename_i x hg0
    have hg := hs.1.get hg0 (Nat.le_of_ble_eq_true rfl)
    exact lv_lload_n hx hb hd rfl (hg.1) (st_go h hs (ok_c hg.2 hs.2.2.1))
  · exact h.elim
theorem s_lload {k : Nat} (hf : Fr p s mid args meth c D w m) (hs : St D w m k0 j0 L S M H locs cells slots ls) (hd : decode (mB m) pc = .ok (.lload k, 2)) (h : a_lload k (pc + 2) ax cn L S M (KW p l e R s mid args below meth c D w m k0 j0 Q) RR CC False) : W p l e R s mid args below meth c H locs cells slots Q (F0 mid pc ls (S.map (cV w))) := by
  obtain ⟨hx, hb, -⟩ := hf
  unfold a_lload at h
  split at h
  · rename_i x hg0
    have hg := hs.1.get hg0 (Nat.le_of_ble_eq_true rfl)
    exact lv_lload hx hb hd (hg.1) (st_go h hs (ok_c hg.2 hs.2.2.1))
  · exact h.elim
theorem s_aload_n {k : Fin 4} (hf : Fr p s mid args meth c D w m) (hs : St D w m k0 j0 L S M H locs cells slots ls) (hd : decode (mB m) pc = .ok (.aload_n k, 1)) (h : a_aload_n k (pc + 1) ax cn L S M (KW p l e R s mid args below meth c D w m k0 j0 Q) RR CC False) : W p l e R s mid args below meth c H locs cells slots Q (F0 mid pc ls (S.map (cV w))) := by
  obtain ⟨hx, hb, -⟩ := hf
  unfold a_aload_n at h
  split at h
  · rename_i x hg0
    have hg := (hs.1.get hg0 (Nat.le_of_ble_eq_true rfl)).1
    by_cases hz : x = 0
    · have hg : ls[k.1]? = some (.val .null) := by rw [hg]; subst hz; rfl
      refine lv_aload_nN hx hb hd rfl hg ?_
      have h9 := st_go h hs (ok_c (show okV (2, x) from trivial) hs.2.2.1)
      subst hz
      exact h9
    · have hr : cR w x = .ref (cad w x) := if_neg hz
      have hg : ls[k.1]? = some (.val (.ref (cad w x))) := by rw [hg, ← hr]; rfl
      refine lv_aload_n hx hb hd rfl hg ?_
      have h9 := st_go h hs (ok_c (show okV (2, x) from trivial) hs.2.2.1)
      rw [← hr]
      exact h9
  · exact h.elim
theorem s_aload {k : Nat} (hf : Fr p s mid args meth c D w m) (hs : St D w m k0 j0 L S M H locs cells slots ls) (hd : decode (mB m) pc = .ok (.aload k, 2)) (h : a_aload k (pc + 2) ax cn L S M (KW p l e R s mid args below meth c D w m k0 j0 Q) RR CC False) : W p l e R s mid args below meth c H locs cells slots Q (F0 mid pc ls (S.map (cV w))) := by
  obtain ⟨hx, hb, -⟩ := hf
  unfold a_aload at h
  split at h
  · rename_i x hg0
    have hg := (hs.1.get hg0 (Nat.le_of_ble_eq_true rfl)).1
    by_cases hz : x = 0
    · have hg : ls[k]? = some (.val .null) := by rw [hg]; subst hz; rfl
      refine lv_aloadN hx hb hd hg ?_
      have h9 := st_go h hs (ok_c (show okV (2, x) from trivial) hs.2.2.1)
      subst hz
      exact h9
    · have hr : cR w x = .ref (cad w x) := if_neg hz
      have hg : ls[k]? = some (.val (.ref (cad w x))) := by rw [hg, ← hr]; rfl
      refine lv_aload hx hb hd hg ?_
      have h9 := st_go h hs (ok_c (show okV (2, x) from trivial) hs.2.2.1)
      rw [← hr]
      exact h9
  · exact h.elim
theorem s_istore_n {k : Fin 4} (hf : Fr p s mid args meth c D w m) (hs : St D w m k0 j0 L S M H locs cells slots ls) (hd : decode (mB m) pc = .ok (.istore_n k, 1)) (hn : k.1 < mX m) (h : a_istore_n k (pc + 1) ax cn L S M (KW p l e R s mid args below meth c D w m k0 j0 Q) RR CC False) : W p l e R s mid args below meth c H locs cells slots Q (F0 mid pc ls (S.map (cV w))) := by
  obtain ⟨hx, hb, -⟩ := hf
  unfold a_istore_n at h
  split at h
  · rename_i x S'
    obtain ⟨hp, h⟩ := brK_n h
    have hp : (getL L (k.1 - 1)).1 ≠ 1 := fun q => by rw [q] at hp; exact absurd hp (by decide)
    show W p l e R s mid args below meth c H locs cells slots Q (F0 mid pc ls (.int (i32 x) :: S'.map (cV w)))
    refine lv_istore_n hx hb hd rfl hs.1.1 hn rfl (fun ls' hl' => ?_)
    exact st_goL h hs (hs.1.set1 (v := (0, x)) hp (ok_h hs.2.2.1) hl') (ok_t hs.2.2.1)
  · exact h.elim
theorem s_lstore_n {k : Fin 4} (hf : Fr p s mid args meth c D w m) (hs : St D w m k0 j0 L S M H locs cells slots ls) (hd : decode (mB m) pc = .ok (.lstore_n k, 1)) (hn : k.1 + 1 < mX m) (h : a_lstore_n k (pc + 1) ax cn L S M (KW p l e R s mid args below meth c D w m k0 j0 Q) RR CC False) : W p l e R s mid args below meth c H locs cells slots Q (F0 mid pc ls (S.map (cV w))) := by
  obtain ⟨hx, hb, -⟩ := hf
  unfold a_lstore_n at h
  split at h
  · rename_i x S'
    obtain ⟨hp, h⟩ := brK_n h
    have hp : (getL L (k.1 - 1)).1 ≠ 1 := fun q => by rw [q] at hp; exact absurd hp (by decide)
    show W p l e R s mid args below meth c H locs cells slots Q (F0 mid pc ls (.long (i64 x) :: S'.map (cV w)))
    refine lv_lstore_n hx hb hd rfl hs.1.1 hn rfl (fun ls' hl' => ?_)
    exact st_goL h hs (hs.1.set2 hp (ok_h hs.2.2.1) hl') (ok_t hs.2.2.1)
  · exact h.elim
theorem s_astore_n {k : Fin 4} (hf : Fr p s mid args meth c D w m) (hs : St D w m k0 j0 L S M H locs cells slots ls) (hd : decode (mB m) pc = .ok (.astore_n k, 1)) (hn : k.1 < mX m) (h : a_astore_n k (pc + 1) ax cn L S M (KW p l e R s mid args below meth c D w m k0 j0 Q) RR CC False) : W p l e R s mid args below meth c H locs cells slots Q (F0 mid pc ls (S.map (cV w))) := by
  obtain ⟨hx, hb, -⟩ := hf
  unfold a_astore_n at h
  split at h
  · rename_i x S'
    obtain ⟨hp, h⟩ := brK_n h
    have hp : (getL L (k.1 - 1)).1 ≠ 1 := fun q => by rw [q] at hp; exact absurd hp (by decide)
    show W p l e R s mid args below meth c H locs cells slots Q (F0 mid pc ls (cR w x :: S'.map (cV w)))
    by_cases hz : x = 0
    · have hr : cR w x = .null := if_pos hz
      rw [hr]
      refine lv_astore_nN hx hb hd rfl hs.1.1 hn rfl (fun ls' hl' => ?_)
      exact st_goL h hs (hs.1.set1 (v := (2, x)) hp trivial (by rw [cV_2, hr]; exact hl')) (ok_t hs.2.2.1)
    · have hr : cR w x = .ref (cad w x) := if_neg hz
      rw [hr]
      refine lv_astore_n hx hb hd rfl hs.1.1 hn rfl (fun ls' hl' => ?_)
      exact st_goL h hs (hs.1.set1 (v := (2, x)) hp trivial (by rw [cV_2, hr]; exact hl')) (ok_t hs.2.2.1)
  · exact h.elim
theorem s_istore {k : Nat} (hf : Fr p s mid args meth c D w m) (hs : St D w m k0 j0 L S M H locs cells slots ls) (hd : decode (mB m) pc = .ok (.istore k, 2)) (hn : k < mX m) (h : a_istore k (pc + 2) ax cn L S M (KW p l e R s mid args below meth c D w m k0 j0 Q) RR CC False) : W p l e R s mid args below meth c H locs cells slots Q (F0 mid pc ls (S.map (cV w))) := by
  obtain ⟨hx, hb, -⟩ := hf
  unfold a_istore at h
  split at h
  · rename_i x S'
    obtain ⟨hp, h⟩ := brK_n h
    have hp : (getL L (k - 1)).1 ≠ 1 := fun q => by rw [q] at hp; exact absurd hp (by decide)
    show W p l e R s mid args below meth c H locs cells slots Q (F0 mid pc ls (.int (i32 x) :: S'.map (cV w)))
    refine lv_istore hx hb hd hs.1.1 hn rfl (fun ls' hl' => ?_)
    exact st_goL h hs (hs.1.set1 (v := (0, x)) hp (ok_h hs.2.2.1) hl') (ok_t hs.2.2.1)
  · exact h.elim
theorem s_lstore {k : Nat} (hf : Fr p s mid args meth c D w m) (hs : St D w m k0 j0 L S M H locs cells slots ls) (hd : decode (mB m) pc = .ok (.lstore k, 2)) (hn : k + 1 < mX m) (h : a_lstore k (pc + 2) ax cn L S M (KW p l e R s mid args below meth c D w m k0 j0 Q) RR CC False) : W p l e R s mid args below meth c H locs cells slots Q (F0 mid pc ls (S.map (cV w))) := by
  obtain ⟨hx, hb, -⟩ := hf
  unfold a_lstore at h
  split at h
  · rename_i x S'
    obtain ⟨hp, h⟩ := brK_n h
    have hp : (getL L (k - 1)).1 ≠ 1 := fun q => by rw [q] at hp; exact absurd hp (by decide)
    show W p l e R s mid args below meth c H locs cells slots Q (F0 mid pc ls (.long (i64 x) :: S'.map (cV w)))
    refine lv_lstore hx hb hd hs.1.1 hn rfl (fun ls' hl' => ?_)
    exact st_goL h hs (hs.1.set2 hp (ok_h hs.2.2.1) hl') (ok_t hs.2.2.1)
  · exact h.elim
theorem s_astore {k : Nat} (hf : Fr p s mid args meth c D w m) (hs : St D w m k0 j0 L S M H locs cells slots ls) (hd : decode (mB m) pc = .ok (.astore k, 2)) (hn : k < mX m) (h : a_astore k (pc + 2) ax cn L S M (KW p l e R s mid args below meth c D w m k0 j0 Q) RR CC False) : W p l e R s mid args below meth c H locs cells slots Q (F0 mid pc ls (S.map (cV w))) := by
  obtain ⟨hx, hb, -⟩ := hf
  unfold a_astore at h
  split at h
  · rename_i x S'
    obtain ⟨hp, h⟩ := brK_n h
    have hp : (getL L (k - 1)).1 ≠ 1 := fun q => by rw [q] at hp; exact absurd hp (by decide)
    show W p l e R s mid args below meth c H locs cells slots Q (F0 mid pc ls (cR w x :: S'.map (cV w)))
    by_cases hz : x = 0
    · have hr : cR w x = .null := if_pos hz
      rw [hr]
      refine lv_astoreN hx hb hd hs.1.1 hn rfl (fun ls' hl' => ?_)
      exact st_goL h hs (hs.1.set1 (v := (2, x)) hp trivial (by rw [cV_2, hr]; exact hl')) (ok_t hs.2.2.1)
    · have hr : cR w x = .ref (cad w x) := if_neg hz
      rw [hr]
      refine lv_astore hx hb hd hs.1.1 hn rfl (fun ls' hl' => ?_)
      exact st_goL h hs (hs.1.set1 (v := (2, x)) hp trivial (by rw [cV_2, hr]; exact hl')) (ok_t hs.2.2.1)
  · exact h.elim
theorem s_iinc {k : Nat} {n : Int} (hf : Fr p s mid args meth c D w m) (hs : St D w m k0 j0 L S M H locs cells slots ls) (hd : decode (mB m) pc = .ok (.iinc k n, 3)) (hn : k < mX m) (hr : r32 n) (h : a_iinc k n (pc + 3) ax cn L S M (KW p l e R s mid args below meth c D w m k0 j0 Q) RR CC False) : W p l e R s mid args below meth c H locs cells slots Q (F0 mid pc ls (S.map (cV w))) := by
  obtain ⟨hx, hb, -⟩ := hf
  unfold a_iinc at h
  split at h
  · rename_i x hg0
    have hp := hs.1.nolong hg0
    have hg := hs.1.get hg0 (Nat.le_of_ble_eq_true rfl)
    have h1 := getL_at hg0 (fun q => absurd (show (0 : Nat) = 3 from q) (by decide))
    obtain ⟨i9, h9⟩ := List.getElem?_of_mem (lvL_mem.mpr ⟨k, (0, x), h1, Nat.le_of_ble_eq_true rfl, rfl⟩ : (0 + k, cV w (0, x)) ∈ lvL w 0 L)
    rw [Nat.zero_add] at h9
    refine lv_iinc (v := i32 (w32 (x + n))) hx hb hd hs.1.1 (k := i9) h9 (i32_add (show r32 x from hg.2) hr) hn rfl (fun ls' hl' => ?_)
    exact st_goL h hs (hs.1.set1 (v := (0, w32 (x + n))) hp (show r32 _ from w32_r _) hl') hs.2.2.1
  · exact h.elim
theorem s_iadd (hf : Fr p s mid args meth c D w m) (hs : St D w m k0 j0 L S M H locs cells slots ls) (hd : decode (mB m) pc = .ok (.iadd, 1)) (h : a_iadd (pc + 1) ax cn L S M (KW p l e R s mid args below meth c D w m k0 j0 Q) RR CC False) : W p l e R s mid args below meth c H locs cells slots Q (F0 mid pc ls (S.map (cV w))) := by
  obtain ⟨hx, hb, -⟩ := hf
  unfold a_iadd at h
  split at h
  · rename_i y x S'
    have hy : r32 y := ok_h hs.2.2.1
    have hx9 : r32 x := ok_h (ok_t hs.2.2.1)
    show W p l e R s mid args below meth c H locs cells slots Q (F0 mid pc ls (.int (i32 y) :: .int (i32 x) :: S'.map (cV w)))
    refine lv_iadd hx hb hd ?_
    rw [i32_add hx9 hy]
    exact st_go h hs (ok_c (show r32 _ from w32_r _) (ok_t (ok_t hs.2.2.1)))
  · exact h.elim
theorem s_isub (hf : Fr p s mid args meth c D w m) (hs : St D w m k0 j0 L S M H locs cells slots ls) (hd : decode (mB m) pc = .ok (.isub, 1)) (h : a_isub (pc + 1) ax cn L S M (KW p l e R s mid args below meth c D w m k0 j0 Q) RR CC False) : W p l e R s mid args below meth c H locs cells slots Q (F0 mid pc ls (S.map (cV w))) := by
  obtain ⟨hx, hb, -⟩ := hf
  unfold a_isub at h
  split at h
  · rename_i y x S'
    have hy : r32 y := ok_h hs.2.2.1
    have hx9 : r32 x := ok_h (ok_t hs.2.2.1)
    show W p l e R s mid args below meth c H locs cells slots Q (F0 mid pc ls (.int (i32 y) :: .int (i32 x) :: S'.map (cV w)))
    refine lv_isub hx hb hd ?_
    rw [i32_sub hx9 hy]
    exact st_go h hs (ok_c (show r32 _ from w32_r _) (ok_t (ok_t hs.2.2.1)))
  · exact h.elim
theorem s_imul (hf : Fr p s mid args meth c D w m) (hs : St D w m k0 j0 L S M H locs cells slots ls) (hd : decode (mB m) pc = .ok (.imul, 1)) (h : a_imul (pc + 1) ax cn L S M (KW p l e R s mid args below meth c D w m k0 j0 Q) RR CC False) : W p l e R s mid args below meth c H locs cells slots Q (F0 mid pc ls (S.map (cV w))) := by
  obtain ⟨hx, hb, -⟩ := hf
  unfold a_imul at h
  split at h
  · rename_i y x S'
    have hy : r32 y := ok_h hs.2.2.1
    have hx9 : r32 x := ok_h (ok_t hs.2.2.1)
    show W p l e R s mid args below meth c H locs cells slots Q (F0 mid pc ls (.int (i32 y) :: .int (i32 x) :: S'.map (cV w)))
    refine lv_imul hx hb hd ?_
    rw [i32_mul hx9 hy]
    exact st_go h hs (ok_c (show r32 _ from w32_r _) (ok_t (ok_t hs.2.2.1)))
  · exact h.elim
theorem s_iand (hf : Fr p s mid args meth c D w m) (hs : St D w m k0 j0 L S M H locs cells slots ls) (hd : decode (mB m) pc = .ok (.iand, 1)) (h : a_iand (pc + 1) ax cn L S M (KW p l e R s mid args below meth c D w m k0 j0 Q) RR CC False) : W p l e R s mid args below meth c H locs cells slots Q (F0 mid pc ls (S.map (cV w))) := by
  obtain ⟨hx, hb, -⟩ := hf
  unfold a_iand at h
  split at h
  · rename_i y x S'
    have hy : r32 y := ok_h hs.2.2.1
    have hx9 : r32 x := ok_h (ok_t hs.2.2.1)
    show W p l e R s mid args below meth c H locs cells slots Q (F0 mid pc ls (.int (i32 y) :: .int (i32 x) :: S'.map (cV w)))
    refine lv_iand hx hb hd ?_
    rw [i32_and]
    exact st_go h hs (ok_c (show r32 _ from bA_r _ _) (ok_t (ok_t hs.2.2.1)))
  · exact h.elim
theorem s_ior (hf : Fr p s mid args meth c D w m) (hs : St D w m k0 j0 L S M H locs cells slots ls) (hd : decode (mB m) pc = .ok (.ior, 1)) (h : a_ior (pc + 1) ax cn L S M (KW p l e R s mid args below meth c D w m k0 j0 Q) RR CC False) : W p l e R s mid args below meth c H locs cells slots Q (F0 mid pc ls (S.map (cV w))) := by
  obtain ⟨hx, hb, -⟩ := hf
  unfold a_ior at h
  split at h
  · rename_i y x S'
    have hy : r32 y := ok_h hs.2.2.1
    have hx9 : r32 x := ok_h (ok_t hs.2.2.1)
    show W p l e R s mid args below meth c H locs cells slots Q (F0 mid pc ls (.int (i32 y) :: .int (i32 x) :: S'.map (cV w)))
    refine lv_ior hx hb hd ?_
    rw [i32_or]
    exact st_go h hs (ok_c (show r32 _ from bO_r _ _) (ok_t (ok_t hs.2.2.1)))
  · exact h.elim
theorem s_ixor (hf : Fr p s mid args meth c D w m) (hs : St D w m k0 j0 L S M H locs cells slots ls) (hd : decode (mB m) pc = .ok (.ixor, 1)) (h : a_ixor (pc + 1) ax cn L S M (KW p l e R s mid args below meth c D w m k0 j0 Q) RR CC False) : W p l e R s mid args below meth c H locs cells slots Q (F0 mid pc ls (S.map (cV w))) := by
  obtain ⟨hx, hb, -⟩ := hf
  unfold a_ixor at h
  split at h
  · rename_i y x S'
    have hy : r32 y := ok_h hs.2.2.1
    have hx9 : r32 x := ok_h (ok_t hs.2.2.1)
    show W p l e R s mid args below meth c H locs cells slots Q (F0 mid pc ls (.int (i32 y) :: .int (i32 x) :: S'.map (cV w)))
    refine lv_ixor hx hb hd ?_
    rw [i32_xor]
    exact st_go h hs (ok_c (show r32 _ from bX_r _ _) (ok_t (ok_t hs.2.2.1)))
  · exact h.elim
theorem s_ishl (hf : Fr p s mid args meth c D w m) (hs : St D w m k0 j0 L S M H locs cells slots ls) (hd : decode (mB m) pc = .ok (.ishl, 1)) (h : a_ishl (pc + 1) ax cn L S M (KW p l e R s mid args below meth c D w m k0 j0 Q) RR CC False) : W p l e R s mid args below meth c H locs cells slots Q (F0 mid pc ls (S.map (cV w))) := by
  obtain ⟨hx, hb, -⟩ := hf
  unfold a_ishl at h
  split at h
  · rename_i y x S'
    have hy : r32 y := ok_h hs.2.2.1
    have hx9 : r32 x := ok_h (ok_t hs.2.2.1)
    show W p l e R s mid args below meth c H locs cells slots Q (F0 mid pc ls (.int (i32 y) :: .int (i32 x) :: S'.map (cV w)))
    refine lv_ishl hx hb hd ?_
    rw [i32_shl hx9]
    exact st_go h hs (ok_c (show r32 _ from sL_r _ _) (ok_t (ok_t hs.2.2.1)))
  · exact h.elim
theorem s_ishr (hf : Fr p s mid args meth c D w m) (hs : St D w m k0 j0 L S M H locs cells slots ls) (hd : decode (mB m) pc = .ok (.ishr, 1)) (h : a_ishr (pc + 1) ax cn L S M (KW p l e R s mid args below meth c D w m k0 j0 Q) RR CC False) : W p l e R s mid args below meth c H locs cells slots Q (F0 mid pc ls (S.map (cV w))) := by
  obtain ⟨hx, hb, -⟩ := hf
  unfold a_ishr at h
  split at h
  · rename_i y x S'
    have hy : r32 y := ok_h hs.2.2.1
    have hx9 : r32 x := ok_h (ok_t hs.2.2.1)
    show W p l e R s mid args below meth c H locs cells slots Q (F0 mid pc ls (.int (i32 y) :: .int (i32 x) :: S'.map (cV w)))
    refine lv_ishr hx hb hd ?_
    rw [i32_shr2 hx9]
    exact st_go h hs (ok_c (show r32 _ from sR_r hx9 _) (ok_t (ok_t hs.2.2.1)))
  · exact h.elim
theorem s_iushr (hf : Fr p s mid args meth c D w m) (hs : St D w m k0 j0 L S M H locs cells slots ls) (hd : decode (mB m) pc = .ok (.iushr, 1)) (h : a_iushr (pc + 1) ax cn L S M (KW p l e R s mid args below meth c D w m k0 j0 Q) RR CC False) : W p l e R s mid args below meth c H locs cells slots Q (F0 mid pc ls (S.map (cV w))) := by
  obtain ⟨hx, hb, -⟩ := hf
  unfold a_iushr at h
  split at h
  · rename_i y x S'
    show W p l e R s mid args below meth c H locs cells slots Q (F0 mid pc ls (.int (i32 y) :: .int (i32 x) :: S'.map (cV w)))
    refine lv_iushr (v := i32 (sU x y)) hx hb hd (i32_ushr x y) ?_
    exact st_go h hs (ok_c (show r32 _ from sU_r _ _) (ok_t (ok_t hs.2.2.1)))
  · exact h.elim
theorem s_idiv (hf : Fr p s mid args meth c D w m) (hs : St D w m k0 j0 L S M H locs cells slots ls) (hd : decode (mB m) pc = .ok (.idiv, 1)) (h : a_idiv (pc + 1) ax cn L S M (KW p l e R s mid args below meth c D w m k0 j0 Q) RR CC False) : W p l e R s mid args below meth c H locs cells slots Q (F0 mid pc ls (S.map (cV w))) := by
  obtain ⟨hx, hb, -⟩ := hf
  unfold a_idiv at h
  split at h
  · rename_i y x S'
    obtain ⟨hz, h⟩ := brK_n h
    have hz : ¬ y = 0 := of_decide_eq_false hz
    have hy : r32 y := ok_h hs.2.2.1
    have hx9 : r32 x := ok_h (ok_t hs.2.2.1)
    show W p l e R s mid args below meth c H locs cells slots Q (F0 mid pc ls (.int (i32 y) :: .int (i32 x) :: S'.map (cV w)))
    refine lv_idiv hx hb hd (fun q => hz ((i32_eq hy r32_0).mp q)) ?_
    rw [i32_div hx9 hy]
    exact st_go h hs (ok_c (show r32 _ from w32_r _) (ok_t (ok_t hs.2.2.1)))
  · exact h.elim
theorem s_irem (hf : Fr p s mid args meth c D w m) (hs : St D w m k0 j0 L S M H locs cells slots ls) (hd : decode (mB m) pc = .ok (.irem, 1)) (h : a_irem (pc + 1) ax cn L S M (KW p l e R s mid args below meth c D w m k0 j0 Q) RR CC False) : W p l e R s mid args below meth c H locs cells slots Q (F0 mid pc ls (S.map (cV w))) := by
  obtain ⟨hx, hb, -⟩ := hf
  unfold a_irem at h
  split at h
  · rename_i y x S'
    obtain ⟨hz, h⟩ := brK_n h
    have hz : ¬ y = 0 := of_decide_eq_false hz
    have hy : r32 y := ok_h hs.2.2.1
    have hx9 : r32 x := ok_h (ok_t hs.2.2.1)
    show W p l e R s mid args below meth c H locs cells slots Q (F0 mid pc ls (.int (i32 y) :: .int (i32 x) :: S'.map (cV w)))
    refine lv_irem hx hb hd (fun q => hz ((i32_eq hy r32_0).mp q)) ?_
    rw [i32_rem hx9 hy]
    exact st_go h hs (ok_c (show r32 _ from tmod_r hx9) (ok_t (ok_t hs.2.2.1)))
  · exact h.elim
theorem s_ldiv (hf : Fr p s mid args meth c D w m) (hs : St D w m k0 j0 L S M H locs cells slots ls) (hd : decode (mB m) pc = .ok (.ldiv, 1)) (h : a_ldiv (pc + 1) ax cn L S M (KW p l e R s mid args below meth c D w m k0 j0 Q) RR CC False) : W p l e R s mid args below meth c H locs cells slots Q (F0 mid pc ls (S.map (cV w))) := by
  obtain ⟨hx, hb, -⟩ := hf
  unfold a_ldiv at h
  split at h
  · rename_i y x S'
    obtain ⟨hz, h⟩ := brK_n h
    have hz : ¬ y = 0 := of_decide_eq_false hz
    have hy : r64 y := ok_h hs.2.2.1
    have hx9 : r64 x := ok_h (ok_t hs.2.2.1)
    show W p l e R s mid args below meth c H locs cells slots Q (F0 mid pc ls (.long (i64 y) :: .long (i64 x) :: S'.map (cV w)))
    refine lv_ldiv hx hb hd (fun q => hz ((i64_eq hy r64_0).mp q)) ?_
    rw [i64_div hx9 hy]
    exact st_go h hs (ok_c (show r64 _ from w64_r _) (ok_t (ok_t hs.2.2.1)))
  · exact h.elim
theorem s_lrem (hf : Fr p s mid args meth c D w m) (hs : St D w m k0 j0 L S M H locs cells slots ls) (hd : decode (mB m) pc = .ok (.lrem, 1)) (h : a_lrem (pc + 1) ax cn L S M (KW p l e R s mid args below meth c D w m k0 j0 Q) RR CC False) : W p l e R s mid args below meth c H locs cells slots Q (F0 mid pc ls (S.map (cV w))) := by
  obtain ⟨hx, hb, -⟩ := hf
  unfold a_lrem at h
  split at h
  · rename_i y x S'
    obtain ⟨hz, h⟩ := brK_n h
    have hz : ¬ y = 0 := of_decide_eq_false hz
    have hy : r64 y := ok_h hs.2.2.1
    have hx9 : r64 x := ok_h (ok_t hs.2.2.1)
    show W p l e R s mid args below meth c H locs cells slots Q (F0 mid pc ls (.long (i64 y) :: .long (i64 x) :: S'.map (cV w)))
    refine lv_lrem hx hb hd (fun q => hz ((i64_eq hy r64_0).mp q)) ?_
    rw [i64_rem hx9 hy]
    exact st_go h hs (ok_c (show r64 _ from tmod_r64 hx9) (ok_t (ok_t hs.2.2.1)))
  · exact h.elim
theorem s_ladd (hf : Fr p s mid args meth c D w m) (hs : St D w m k0 j0 L S M H locs cells slots ls) (hd : decode (mB m) pc = .ok (.ladd, 1)) (h : a_ladd (pc + 1) ax cn L S M (KW p l e R s mid args below meth c D w m k0 j0 Q) RR CC False) : W p l e R s mid args below meth c H locs cells slots Q (F0 mid pc ls (S.map (cV w))) := by
  obtain ⟨hx, hb, -⟩ := hf
  unfold a_ladd at h
  split at h
  · rename_i y x S'
    have hy : r64 y := ok_h hs.2.2.1
    have hx9 : r64 x := ok_h (ok_t hs.2.2.1)
    show W p l e R s mid args below meth c H locs cells slots Q (F0 mid pc ls (.long (i64 y) :: .long (i64 x) :: S'.map (cV w)))
    refine lv_ladd hx hb hd ?_
    rw [i64_add hx9 hy]
    exact st_go h hs (ok_c (show r64 _ from w64_r _) (ok_t (ok_t hs.2.2.1)))
  · exact h.elim
theorem s_lsub (hf : Fr p s mid args meth c D w m) (hs : St D w m k0 j0 L S M H locs cells slots ls) (hd : decode (mB m) pc = .ok (.lsub, 1)) (h : a_lsub (pc + 1) ax cn L S M (KW p l e R s mid args below meth c D w m k0 j0 Q) RR CC False) : W p l e R s mid args below meth c H locs cells slots Q (F0 mid pc ls (S.map (cV w))) := by
  obtain ⟨hx, hb, -⟩ := hf
  unfold a_lsub at h
  split at h
  · rename_i y x S'
    have hy : r64 y := ok_h hs.2.2.1
    have hx9 : r64 x := ok_h (ok_t hs.2.2.1)
    show W p l e R s mid args below meth c H locs cells slots Q (F0 mid pc ls (.long (i64 y) :: .long (i64 x) :: S'.map (cV w)))
    refine lv_lsub hx hb hd ?_
    rw [i64_sub hx9 hy]
    exact st_go h hs (ok_c (show r64 _ from w64_r _) (ok_t (ok_t hs.2.2.1)))
  · exact h.elim
theorem s_lmul (hf : Fr p s mid args meth c D w m) (hs : St D w m k0 j0 L S M H locs cells slots ls) (hd : decode (mB m) pc = .ok (.lmul, 1)) (h : a_lmul (pc + 1) ax cn L S M (KW p l e R s mid args below meth c D w m k0 j0 Q) RR CC False) : W p l e R s mid args below meth c H locs cells slots Q (F0 mid pc ls (S.map (cV w))) := by
  obtain ⟨hx, hb, -⟩ := hf
  unfold a_lmul at h
  split at h
  · rename_i y x S'
    have hy : r64 y := ok_h hs.2.2.1
    have hx9 : r64 x := ok_h (ok_t hs.2.2.1)
    show W p l e R s mid args below meth c H locs cells slots Q (F0 mid pc ls (.long (i64 y) :: .long (i64 x) :: S'.map (cV w)))
    refine lv_lmul hx hb hd ?_
    rw [i64_mul hx9 hy]
    exact st_go h hs (ok_c (show r64 _ from w64_r _) (ok_t (ok_t hs.2.2.1)))
  · exact h.elim
theorem s_lor (hf : Fr p s mid args meth c D w m) (hs : St D w m k0 j0 L S M H locs cells slots ls) (hd : decode (mB m) pc = .ok (.lor, 1)) (h : a_lor (pc + 1) ax cn L S M (KW p l e R s mid args below meth c D w m k0 j0 Q) RR CC False) : W p l e R s mid args below meth c H locs cells slots Q (F0 mid pc ls (S.map (cV w))) := by
  obtain ⟨hx, hb, -⟩ := hf
  unfold a_lor at h
  split at h
  · rename_i y x S'
    have hy : r64 y := ok_h hs.2.2.1
    have hx9 : r64 x := ok_h (ok_t hs.2.2.1)
    show W p l e R s mid args below meth c H locs cells slots Q (F0 mid pc ls (.long (i64 y) :: .long (i64 x) :: S'.map (cV w)))
    refine lv_lor hx hb hd ?_
    rw [i64_or]
    exact st_go h hs (ok_c (show r64 _ from bOL_r _ _) (ok_t (ok_t hs.2.2.1)))
  · exact h.elim
theorem s_ineg (hf : Fr p s mid args meth c D w m) (hs : St D w m k0 j0 L S M H locs cells slots ls) (hd : decode (mB m) pc = .ok (.ineg, 1)) (h : a_ineg (pc + 1) ax cn L S M (KW p l e R s mid args below meth c D w m k0 j0 Q) RR CC False) : W p l e R s mid args below meth c H locs cells slots Q (F0 mid pc ls (S.map (cV w))) := by
  obtain ⟨hx, hb, -⟩ := hf
  unfold a_ineg at h
  split at h
  · rename_i x S'
    have hx9 : r32 x := ok_h hs.2.2.1
    show W p l e R s mid args below meth c H locs cells slots Q (F0 mid pc ls (.int (i32 x) :: S'.map (cV w)))
    refine lv_ineg hx hb hd ?_
    rw [i32_neg hx9]
    exact st_go h hs (ok_c (show r32 _ from w32_r _) (ok_t hs.2.2.1))
  · exact h.elim
theorem s_lneg (hf : Fr p s mid args meth c D w m) (hs : St D w m k0 j0 L S M H locs cells slots ls) (hd : decode (mB m) pc = .ok (.lneg, 1)) (h : a_lneg (pc + 1) ax cn L S M (KW p l e R s mid args below meth c D w m k0 j0 Q) RR CC False) : W p l e R s mid args below meth c H locs cells slots Q (F0 mid pc ls (S.map (cV w))) := by
  obtain ⟨hx, hb, -⟩ := hf
  unfold a_lneg at h
  split at h
  · rename_i x S'
    have hx9 : r64 x := ok_h hs.2.2.1
    show W p l e R s mid args below meth c H locs cells slots Q (F0 mid pc ls (.long (i64 x) :: S'.map (cV w)))
    refine lv_lneg hx hb hd ?_
    rw [i64_neg hx9]
    exact st_go h hs (ok_c (show r64 _ from w64_r _) (ok_t hs.2.2.1))
  · exact h.elim
theorem s_lcmp (hf : Fr p s mid args meth c D w m) (hs : St D w m k0 j0 L S M H locs cells slots ls) (hd : decode (mB m) pc = .ok (.lcmp, 1)) (h : a_lcmp (pc + 1) ax cn L S M (KW p l e R s mid args below meth c D w m k0 j0 Q) RR CC False) : W p l e R s mid args below meth c H locs cells slots Q (F0 mid pc ls (S.map (cV w))) := by
  obtain ⟨hx, hb, -⟩ := hf
  unfold a_lcmp at h
  split at h
  · rename_i y x S'
    have hy : r64 y := ok_h hs.2.2.1
    have hx9 : r64 x := ok_h (ok_t hs.2.2.1)
    show W p l e R s mid args below meth c H locs cells slots Q (F0 mid pc ls (.long (i64 y) :: .long (i64 x) :: S'.map (cV w)))
    refine W.lcmp hx hb hd ?_
    rw [cmpL_i hx9 hy]
    exact st_go h hs (ok_c (show r32 _ from cmpL_r _ _) (ok_t (ok_t hs.2.2.1)))
  · exact h.elim
theorem s_i2l (hf : Fr p s mid args meth c D w m) (hs : St D w m k0 j0 L S M H locs cells slots ls) (hd : decode (mB m) pc = .ok (.i2l, 1)) (h : a_i2l (pc + 1) ax cn L S M (KW p l e R s mid args below meth c D w m k0 j0 Q) RR CC False) : W p l e R s mid args below meth c H locs cells slots Q (F0 mid pc ls (S.map (cV w))) := by
  obtain ⟨hx, hb, -⟩ := hf
  unfold a_i2l at h
  split at h
  · rename_i x S'
    have hx9 : r32 x := ok_h hs.2.2.1
    show W p l e R s mid args below meth c H locs cells slots Q (F0 mid pc ls (.int (i32 x) :: S'.map (cV w)))
    refine lv_i2l hx hb hd (i32_l hx9) ?_
    exact st_go h hs (ok_c (show r64 x from i64_of32 hx9) (ok_t hs.2.2.1))
  · exact h.elim
theorem s_l2i (hf : Fr p s mid args meth c D w m) (hs : St D w m k0 j0 L S M H locs cells slots ls) (hd : decode (mB m) pc = .ok (.l2i, 1)) (h : a_l2i (pc + 1) ax cn L S M (KW p l e R s mid args below meth c D w m k0 j0 Q) RR CC False) : W p l e R s mid args below meth c H locs cells slots Q (F0 mid pc ls (S.map (cV w))) := by
  obtain ⟨hx, hb, -⟩ := hf
  unfold a_l2i at h
  split at h
  · rename_i x S'
    have hx9 : r64 x := ok_h hs.2.2.1
    show W p l e R s mid args below meth c H locs cells slots Q (F0 mid pc ls (.long (i64 x) :: S'.map (cV w)))
    refine lv_l2i hx hb hd (i64_i hx9) ?_
    exact st_go h hs (ok_c (show r32 _ from w32_r _) (ok_t hs.2.2.1))
  · exact h.elim
theorem s_i2b (hf : Fr p s mid args meth c D w m) (hs : St D w m k0 j0 L S M H locs cells slots ls) (hd : decode (mB m) pc = .ok (.i2b, 1)) (h : a_i2b (pc + 1) ax cn L S M (KW p l e R s mid args below meth c D w m k0 j0 Q) RR CC False) : W p l e R s mid args below meth c H locs cells slots Q (F0 mid pc ls (S.map (cV w))) := by
  obtain ⟨hx, hb, -⟩ := hf
  unfold a_i2b at h
  split at h
  · rename_i x S'
    have hx9 : r32 x := ok_h hs.2.2.1
    show W p l e R s mid args below meth c H locs cells slots Q (F0 mid pc ls (.int (i32 x) :: S'.map (cV w)))
    refine lv_i2b hx hb hd (i32_b hx9) ?_
    exact st_go h hs (ok_c (show r32 (w8 x) from ⟨by have := w8_r x; omega, by have := w8_r x; omega⟩) (ok_t hs.2.2.1))
  · exact h.elim
theorem s_dup (hf : Fr p s mid args meth c D w m) (hs : St D w m k0 j0 L S M H locs cells slots ls) (hd : decode (mB m) pc = .ok (.dup, 1)) (h : a_dup (pc + 1) ax cn L S M (KW p l e R s mid args below meth c D w m k0 j0 Q) RR CC False) : W p l e R s mid args below meth c H locs cells slots Q (F0 mid pc ls (S.map (cV w))) := by
  obtain ⟨hx, hb, -⟩ := hf
  unfold a_dup at h
  split at h
  · rename_i x S'
    exact lv_dup hx hb hd rfl (st_go h hs (ok_c (ok_h hs.2.2.1) hs.2.2.1))
  · rename_i x S'
    exact lv_dup hx hb hd (cR_cat w x) (st_go h hs (ok_c (ok_h hs.2.2.1) hs.2.2.1))
  · exact h.elim
theorem s_dup2 (hf : Fr p s mid args meth c D w m) (hs : St D w m k0 j0 L S M H locs cells slots ls) (hd : decode (mB m) pc = .ok (.dup2, 1)) (h : a_dup2 (pc + 1) ax cn L S M (KW p l e R s mid args below meth c D w m k0 j0 Q) RR CC False) : W p l e R s mid args below meth c H locs cells slots Q (F0 mid pc ls (S.map (cV w))) := by
  obtain ⟨hx, hb, -⟩ := hf
  unfold a_dup2 at h
  split at h
  · rename_i x y S'
    exact lv_dup2_11 hx hb hd rfl (cR_cat w y) (st_go h hs (ok_c (ok_h hs.2.2.1) (ok_c (ok_h (ok_t hs.2.2.1)) hs.2.2.1)))
  · exact h.elim
theorem s_pop (hf : Fr p s mid args meth c D w m) (hs : St D w m k0 j0 L S M H locs cells slots ls) (hd : decode (mB m) pc = .ok (.pop, 1)) (h : a_pop (pc + 1) ax cn L S M (KW p l e R s mid args below meth c D w m k0 j0 Q) RR CC False) : W p l e R s mid args below meth c H locs cells slots Q (F0 mid pc ls (S.map (cV w))) := by
  obtain ⟨hx, hb, -⟩ := hf
  unfold a_pop at h
  split at h
  · rename_i x S'
    exact lv_pop hx hb hd rfl (st_go h hs (ok_t hs.2.2.1))
  · rename_i x S'
    exact lv_pop hx hb hd (cR_cat w x) (st_go h hs (ok_t hs.2.2.1))
  · exact h.elim
theorem s_ifCond {cd : Jvm.ClassFile.Cond} {off : Int} (hf : Fr p s mid args meth c D w m) (hs : St D w m k0 j0 L S M H locs cells slots ls) (hd : decode (mB m) pc = .ok (.ifCond cd off, 3)) (ht : tgt pc off ax = true) (h : a_ifCond cd (pc + 3) ax cn L S M (KW p l e R s mid args below meth c D w m k0 j0 Q) RR CC False) : W p l e R s mid args below meth c H locs cells slots Q (F0 mid pc ls (S.map (cV w))) := by
  obtain ⟨hx, hb, -⟩ := hf
  unfold a_ifCond at h
  split at h
  · rename_i x S' t
    have ht9 : (pc : Int) + off = (t : Int) := by simpa [tgt] using ht
    have hx9 : r32 x := ok_h hs.2.2.1
    have hy : r32 (0 : Int) := r32_0
    show W p l e R s mid args below meth c H locs cells slots Q (F0 mid pc ls (.int (i32 x) :: S'.map (cV w)))
    cases cd with
    | eq => exact lv_if_eq hx hb hd ht9 (fun q => st_go ((brK_s h).1 ((i32_eq hx9 hy).mp q)) hs (ok_t hs.2.2.1)) (fun q => st_go ((brK_s h).2 (fun z => q ((i32_eq hx9 hy).mpr z))) hs (ok_t hs.2.2.1))
    | ne => exact lv_if_ne hx hb hd ht9 (fun q => st_go ((brK_s h).2 (fun z => q ((i32_eq hx9 hy).mpr z))) hs (ok_t hs.2.2.1)) (fun q => st_go ((brK_s h).1 ((i32_eq hx9 hy).mp q)) hs (ok_t hs.2.2.1))
    | lt => exact lv_if_lt hx hb hd ht9 (fun q => st_go ((brK_s h).1 ((i32_lt hx9 hy).mp q)) hs (ok_t hs.2.2.1)) (fun q => st_go ((brK_s h).2 (fun z => q ((i32_lt hx9 hy).mpr z))) hs (ok_t hs.2.2.1))
    | ge => exact lv_if_ge hx hb hd ht9 (fun q => st_go ((brK_s h).2 (Int.not_lt.mpr ((i32_le hy hx9).mp q))) hs (ok_t hs.2.2.1)) (fun q => st_go ((brK_s h).1 (Int.not_le.mp (fun z => q ((i32_le hy hx9).mpr z)))) hs (ok_t hs.2.2.1))
    | gt => exact lv_if_gt hx hb hd ht9 (fun q => st_go ((brK_s h).1 ((i32_lt hy hx9).mp q)) hs (ok_t hs.2.2.1)) (fun q => st_go ((brK_s h).2 (fun z => q ((i32_lt hy hx9).mpr z))) hs (ok_t hs.2.2.1))
    | le => exact lv_if_le hx hb hd ht9 (fun q => st_go ((brK_s h).2 (Int.not_lt.mpr ((i32_le hx9 hy).mp q))) hs (ok_t hs.2.2.1)) (fun q => st_go ((brK_s h).1 (Int.not_le.mp (fun z => q ((i32_le hx9 hy).mpr z)))) hs (ok_t hs.2.2.1))
  · exact h.elim
theorem s_if_icmp {cd : Jvm.ClassFile.Cond} {off : Int} (hf : Fr p s mid args meth c D w m) (hs : St D w m k0 j0 L S M H locs cells slots ls) (hd : decode (mB m) pc = .ok (.if_icmp cd off, 3)) (ht : tgt pc off ax = true) (h : a_if_icmp cd (pc + 3) ax cn L S M (KW p l e R s mid args below meth c D w m k0 j0 Q) RR CC False) : W p l e R s mid args below meth c H locs cells slots Q (F0 mid pc ls (S.map (cV w))) := by
  obtain ⟨hx, hb, -⟩ := hf
  unfold a_if_icmp at h
  split at h
  · rename_i y x S' t
    have ht9 : (pc : Int) + off = (t : Int) := by simpa [tgt] using ht
    have hy : r32 y := ok_h hs.2.2.1
    have hx9 : r32 x := ok_h (ok_t hs.2.2.1)
    show W p l e R s mid args below meth c H locs cells slots Q (F0 mid pc ls (.int (i32 y) :: .int (i32 x) :: S'.map (cV w)))
    cases cd with
    | eq => exact lv_icmp_eq hx hb hd ht9 (fun q => st_go ((brK_s h).1 ((i32_eq hx9 hy).mp q)) hs (ok_t (ok_t hs.2.2.1))) (fun q => st_go ((brK_s h).2 (fun z => q ((i32_eq hx9 hy).mpr z))) hs (ok_t (ok_t hs.2.2.1)))
    | ne => exact lv_icmp_ne hx hb hd ht9 (fun q => st_go ((brK_s h).2 (fun z => q ((i32_eq hx9 hy).mpr z))) hs (ok_t (ok_t hs.2.2.1))) (fun q => st_go ((brK_s h).1 ((i32_eq hx9 hy).mp q)) hs (ok_t (ok_t hs.2.2.1)))
    | lt => exact lv_icmp_lt hx hb hd ht9 (fun q => st_go ((brK_s h).1 ((i32_lt hx9 hy).mp q)) hs (ok_t (ok_t hs.2.2.1))) (fun q => st_go ((brK_s h).2 (fun z => q ((i32_lt hx9 hy).mpr z))) hs (ok_t (ok_t hs.2.2.1)))
    | ge => exact lv_icmp_ge hx hb hd ht9 (fun q => st_go ((brK_s h).2 (Int.not_lt.mpr ((i32_le hy hx9).mp q))) hs (ok_t (ok_t hs.2.2.1))) (fun q => st_go ((brK_s h).1 (Int.not_le.mp (fun z => q ((i32_le hy hx9).mpr z)))) hs (ok_t (ok_t hs.2.2.1)))
    | gt => exact lv_icmp_gt hx hb hd ht9 (fun q => st_go ((brK_s h).1 ((i32_lt hy hx9).mp q)) hs (ok_t (ok_t hs.2.2.1))) (fun q => st_go ((brK_s h).2 (fun z => q ((i32_lt hy hx9).mpr z))) hs (ok_t (ok_t hs.2.2.1)))
    | le => exact lv_icmp_le hx hb hd ht9 (fun q => st_go ((brK_s h).2 (Int.not_lt.mpr ((i32_le hx9 hy).mp q))) hs (ok_t (ok_t hs.2.2.1))) (fun q => st_go ((brK_s h).1 (Int.not_le.mp (fun z => q ((i32_le hx9 hy).mpr z)))) hs (ok_t (ok_t hs.2.2.1)))
  · exact h.elim
theorem s_ifnull {off : Int} (hf : Fr p s mid args meth c D w m) (hs : St D w m k0 j0 L S M H locs cells slots ls) (hd : decode (mB m) pc = .ok (.ifnull off, 3)) (ht : tgt pc off ax = true) (h : a_ifnull (pc + 3) ax cn L S M (KW p l e R s mid args below meth c D w m k0 j0 Q) RR CC False) : W p l e R s mid args below meth c H locs cells slots Q (F0 mid pc ls (S.map (cV w))) := by
  obtain ⟨hx, hb, -⟩ := hf
  unfold a_ifnull at h
  split at h
  · rename_i x S' t
    have ht9 : (pc : Int) + off = (t : Int) := by simpa [tgt] using ht
    show W p l e R s mid args below meth c H locs cells slots Q (F0 mid pc ls (cR w x :: S'.map (cV w)))
    by_cases hz : x = 0
    · have hr : cR w x = .null := if_pos hz
      rw [hr]
      exact lv_ifnullN hx hb hd ht9 (st_go ((brK_s h).1 hz) hs (ok_t hs.2.2.1))
    · have hr : cR w x = .ref (cad w x) := if_neg hz
      rw [hr]
      exact lv_ifnull hx hb hd (st_go ((brK_s h).2 hz) hs (ok_t hs.2.2.1))
  · exact h.elim
theorem s_ifnonnull {off : Int} (hf : Fr p s mid args meth c D w m) (hs : St D w m k0 j0 L S M H locs cells slots ls) (hd : decode (mB m) pc = .ok (.ifnonnull off, 3)) (ht : tgt pc off ax = true) (h : a_ifnonnull (pc + 3) ax cn L S M (KW p l e R s mid args below meth c D w m k0 j0 Q) RR CC False) : W p l e R s mid args below meth c H locs cells slots Q (F0 mid pc ls (S.map (cV w))) := by
  obtain ⟨hx, hb, -⟩ := hf
  unfold a_ifnonnull at h
  split at h
  · rename_i x S' t
    have ht9 : (pc : Int) + off = (t : Int) := by simpa [tgt] using ht
    show W p l e R s mid args below meth c H locs cells slots Q (F0 mid pc ls (cR w x :: S'.map (cV w)))
    by_cases hz : x = 0
    · have hr : cR w x = .null := if_pos hz
      rw [hr]
      exact lv_ifnonnullN hx hb hd (st_go ((brK_s h).1 hz) hs (ok_t hs.2.2.1))
    · have hr : cR w x = .ref (cad w x) := if_neg hz
      rw [hr]
      exact lv_ifnonnull hx hb hd ht9 (st_go ((brK_s h).2 hz) hs (ok_t hs.2.2.1))
  · exact h.elim
theorem s_goto {off : Int} (hf : Fr p s mid args meth c D w m) (hs : St D w m k0 j0 L S M H locs cells slots ls) (hd : decode (mB m) pc = .ok (.goto off, 3)) (ht : tgt pc off ax = true) (h : a_goto (pc + 3) ax cn L S M (KW p l e R s mid args below meth c D w m k0 j0 Q) RR CC False) : W p l e R s mid args below meth c H locs cells slots Q (F0 mid pc ls (S.map (cV w))) := by
  obtain ⟨hx, hb, -⟩ := hf
  unfold a_goto at h
  split at h
  · rename_i t
    have ht9 : (pc : Int) + off = (t : Int) := by simpa [tgt] using ht
    exact lv_goto hx hb hd ht9 (st_go h hs hs.2.2.1)
  · exact h.elim
end
end
