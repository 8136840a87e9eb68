/-! CALLS, by instruction; one step -/
noncomputable section
theorem and63 (y : Int) : (i64 y &&& 63).toBitVec.toNat = (y % 64).toNat := by
  show ((i64 y).toBitVec &&& (63 : Int64).toBitVec).toNat = _
  rw [BitVec.toNat_and, i64_tn, show (63 : Int64).toBitVec.toNat = 2 ^ 6 - 1 from by decide +kernel, Nat.and_two_pow_sub_one_eq_mod]
  unfold u64; omega
theorem smod63 (y : Int) : ((i64 y &&& 63).toBitVec.smod 64).toNat = (y % 64).toNat := by
  have h : (y % 64).toNat < 64 := by omega
  have e : (i64 y &&& 63) = i64 ((y % 64).toNat : Nat) := by
    refine i64_inj ?_
    rw [i64_bv, and63, i64_t ⟨by omega, by omega⟩, w64_id (by omega) (by omega)]
  rw [e]
  generalize (y % 64).toNat = k at h
  revert h
  revert k
  decide +kernel
theorem i64_shl {x y : Int} (hx : r64 x) : i64 x <<< (i64 y &&& 63) = i64 (sLL x y) := by
  refine i64_inj ?_
  have e0 : (i64 x <<< (i64 y &&& 63)).toBitVec.toNat = (i64 x).toBitVec.toNat * 2 ^ (y % 64).toNat % 2 ^ 64 := by
    show ((i64 x).toBitVec <<< ((i64 y &&& 63).toBitVec.smod 64).toNat).toNat = _
    rw [smod63, BitVec.toNat_shiftLeft, Nat.shiftLeft_eq]
  rw [i64_t (sLL_r x y), sLL_d, i64_bv, e0, i64_tn]
  have e : ((u64 x * 2 ^ (y % 64).toNat % 2 ^ 64 : Nat) : Int) = (x * ((2 ^ (y % 64).toNat : Nat) : Int)) % 18446744073709551616 := by
    have h1 : ((u64 x : Nat) : Int) = x % 18446744073709551616 := by unfold u64; omega
    rw [Int.natCast_emod, Int.natCast_mul, h1]
    rw [show ((2 ^ 64 : Nat) : Int) = 18446744073709551616 from rfl, Int.mul_emod, Int.emod_emod, ← Int.mul_emod]
  rw [e]
  unfold sLLc w64
  omega
theorem i64_shr {x y : Int} (hx : r64 x) : (i64 x >>> (i64 y &&& 63)).toInt = sRL x y := by
  rw [sRL_d]
  show ((i64 x).toBitVec.sshiftRight ((i64 y &&& 63).toBitVec.smod 64).toNat).toInt = _
  rw [smod63, BitVec.toInt_sshiftRight]
  show (i64 x).toInt >>> (y % 64).toNat = _
  rw [i64_t hx, Int.shiftRight_eq_div_pow]; rfl
theorem sRL_r {x : Int} (hx : r64 x) (y : Int) : r64 (sRL x y) := by
  rw [← i64_shr (y := y) hx]
  exact ⟨Int64.le_toInt _, Int64.toInt_lt _⟩
theorem i64_shr2 {x y : Int} (hx : r64 x) : i64 x >>> (i64 y &&& 63) = i64 (sRL x y) := by
  refine i64_inj ?_
  rw [i64_shr hx, i64_t (sRL_r hx y)]
theorem i32_64 {y : Int} (h : r32 y) : (i32 y).toInt64 = i64 y := by
  refine i64_inj ?_
  rw [Int32.toInt_toInt64, i32_t h, i64_t (i64_of32 h)]
section
variable {p : Program} {l : Launch} {e : Env} {R : Room} {s : State} {mid : MethodId} {args : Array Value} {below : List Frame} {meth : Method} {c : Code} {D : DD} {w : WD} {m k0 j0 : Nat} {Q : State → Prop} {pc nx : Nat} {ax : List Nat} {cn : Int} {L S S' : List AV} {M : AM} {H : Heap} {locs : List Loc} {cells slots : Nat} {ls : Array Slot}
  {RR : AV → AM → Prop} {CC : Nat → List AV → Nat → List AV → Nat → Prop}
theorem s_lshl (hf : Fr p s mid args meth c D w m) (hs : St D w m k0 j0 L S M H locs cells slots ls) (hd : decode (mB m) pc = .ok (.lshl, 1)) (h : a_lshl (pc + 1) ax cn L S M (KW p l e R s mid args below meth c D w m k0 j0 Q) RR CC False) : W p l e R s mid args below meth c H locs cells slots Q (F0 mid pc ls (S.map (cV w))) := by
  obtain ⟨hx, hb, -⟩ := hf
  unfold a_lshl at h
  split at h
  · rename_i y x S'
    have hy : r32 y := ok_h hs.2.2.1
    have hx9 : r64 x := ok_h (ok_t hs.2.2.1)
    show W p l e R s mid args below meth c H locs cells slots Q (F0 mid pc ls (.int (i32 y) :: .long (i64 x) :: S'.map (cV w)))
    refine lv_lshl hx hb hd (v := i64 (sLL x y)) (by rw [i32_64 hy, i64_shl hx9]) ?_
    exact st_go h hs (ok_c (show r64 _ from sLL_r _ _) (ok_t (ok_t hs.2.2.1)))
  · exact h.elim
theorem s_lshr (hf : Fr p s mid args meth c D w m) (hs : St D w m k0 j0 L S M H locs cells slots ls) (hd : decode (mB m) pc = .ok (.lshr, 1)) (h : a_lshr (pc + 1) ax cn L S M (KW p l e R s mid args below meth c D w m k0 j0 Q) RR CC False) : W p l e R s mid args below meth c H locs cells slots Q (F0 mid pc ls (S.map (cV w))) := by
  obtain ⟨hx, hb, -⟩ := hf
  unfold a_lshr at h
  split at h
  · rename_i y x S'
    have hy : r32 y := ok_h hs.2.2.1
    have hx9 : r64 x := ok_h (ok_t hs.2.2.1)
    show W p l e R s mid args below meth c H locs cells slots Q (F0 mid pc ls (.int (i32 y) :: .long (i64 x) :: S'.map (cV w)))
    refine lv_lshr hx hb hd (v := i64 (sRL x y)) (by rw [i32_64 hy, i64_shr2 hx9]) ?_
    exact st_go h hs (ok_c (show r64 _ from sRL_r hx9 _) (ok_t (ok_t hs.2.2.1)))
  · exact h.elim
theorem s_invokestatic {idx : Nat} (hf : Fr p s mid args meth c D w m) (hs : St D w m k0 j0 L S M H locs cells slots ls) (hR : 5 ≤ R.frames ∧ 120 ≤ R.locals) (hd : decode (mB m) pc = .ok (.invokestatic idx, 3)) (hk : chkI m pc (.invokestatic idx, pc + 3, ax, cn) = true) (h : a_invokestatic (pc + 3) ax cn L S M (KW p l e R s mid args below meth c D w m k0 j0 Q) RR (CK p l e R s mid args below meth c D w m k0 j0 Q L M) False) : W p l e R s mid args below meth c H locs cells slots Q (F0 mid pc ls (S.map (cV w))) := by
  have hk : chkC m 0 idx ax = true := hk
  have hR1 : 1 ≤ R.frames ∧ 60 ≤ R.locals := ⟨by omega, by omega⟩
  unfold a_invokestatic callK at h
  split at h
  · rename_i y n mx ci rt x9
    obtain ⟨hb1, h⟩ := brK_b h
    simp only [Bool.and_eq_true] at hb1
    obtain ⟨⟨b1, b2⟩, b3⟩ := hb1
    replace b1 := Nat.le_of_ble_eq_true b1
    replace b2 := Nat.le_of_ble_eq_true b2
    replace b3 := Nat.le_of_ble_eq_true b3
    have hci : Nat.beq ci 0 = true := by
      simp only [chkC, Bool.and_eq_true, cond_true, show Nat.beq 0 0 = true from rfl] at hk
      exact hk.2.1.2
    rw [hci] at h
    exact call_st hf hs hd hk b1 b2 b3 h
  · exact absurd hk (by simp [chkC, show Nat.beq 0 2 = false from rfl])
  · have hl : hasL (nth vlT (mt m).1 []) idx 1001 = true := by
      simp only [chkC, Bool.and_eq_true] at hk
      exact hk.1
    split at h
    · obtain ⟨hw, h⟩ := brK_b h
      obtain ⟨ha, h⟩ := brK_b h
      simp only [Bool.and_eq_true] at hw
      exact n_copy hf hs hR1 hd hl (Nat.le_of_ble_eq_true hw.2) (Nat.eq_of_beq_eq_true hw.1.1) (Nat.eq_of_beq_eq_true hw.1.2) (of_decide_eq_true ha) h
    · exact h.elim
  · exact absurd hk (by simp [chkC, show Nat.beq 0 1 = false from rfl])
  · exact absurd hk (by simp [chkC, show Nat.beq 0 1 = false from rfl])
  · exact absurd hk (by simp [chkC, show Nat.beq 0 1 = false from rfl])
  · have hl : hasL (nth vlT (mt m).1 []) idx 1005 = true := by
      simp only [chkC, Bool.and_eq_true] at hk
      exact hk.1
    split at h
    · obtain ⟨hw, h⟩ := brK_b h
      exact n_min hf hs hR1 hd hl (Nat.le_of_ble_eq_true hw) h
    · exact h.elim
  · have hl : hasL (nth vlT (mt m).1 []) idx 1006 = true := by
      simp only [chkC, Bool.and_eq_true] at hk
      exact hk.1
    split at h
    · obtain ⟨hw, h⟩ := brK_b h
      exact n_max hf hs hR1 hd hl (Nat.le_of_ble_eq_true hw) h
    · exact h.elim
  · have hl : hasL (nth vlT (mt m).1 []) idx 1007 = true := by
      simp only [chkC, Bool.and_eq_true] at hk
      exact hk.1
    split at h
    · obtain ⟨hw, h⟩ := brK_b h
      exact n_abs hf hs hR1 hd hl (Nat.le_of_ble_eq_true hw) h
    · exact h.elim
  · exact h.elim
theorem s_invokevirtual {idx : Nat} (hf : Fr p s mid args meth c D w m) (hs : St D w m k0 j0 L S M H locs cells slots ls) (hR : 5 ≤ R.frames ∧ 120 ≤ R.locals) (hd : decode (mB m) pc = .ok (.invokevirtual idx, 3)) (hk : chkI m pc (.invokevirtual idx, pc + 3, ax, cn) = true) (h : a_invokevirtual (pc + 3) ax cn L S M (KW p l e R s mid args below meth c D w m k0 j0 Q) RR (CK p l e R s mid args below meth c D w m k0 j0 Q L M) False) : W p l e R s mid args below meth c H locs cells slots Q (F0 mid pc ls (S.map (cV w))) := by
  have hk : chkC m 1 idx ax = true := hk
  have hR1 : 1 ≤ R.frames ∧ 60 ≤ R.locals := ⟨by omega, by omega⟩
  unfold a_invokevirtual callK at h
  split at h
  · rename_i y n mx ci rt x9
    obtain ⟨hb1, h⟩ := brK_b h
    simp only [Bool.and_eq_true] at hb1
    obtain ⟨⟨b1, b2⟩, b3⟩ := hb1
    replace b1 := Nat.le_of_ble_eq_true b1
    replace b2 := Nat.le_of_ble_eq_true b2
    replace b3 := Nat.le_of_ble_eq_true b3
    have hci : Nat.beq ci 0 = false := by
      simp only [chkC, Bool.and_eq_true, cond_false, show Nat.beq 1 0 = false from rfl] at hk
      have h9 := Nat.eq_of_beq_eq_true hk.2.1.1.2
      rw [h9]; rfl
    rw [hci] at h
    have h : (match (S.take n).reverse with
      | (2, a) :: _ => brK (Nat.beq (kd M.2.2 a + 1) ci) (CK p l e R s mid args below meth c D w m k0 j0 Q L M y (padTo mx (expand (S.take n).reverse)) (pc + 3) (S.drop n) rt) False
      | _ => False) := h
    split at h
    · rename_i a A' hA
      obtain ⟨hb2, h⟩ := brK_b h
      exact call_vi hf hs hd hk b1 b2 b3 hA (Nat.eq_of_beq_eq_true hb2) h
    · exact h.elim
  · exact absurd hk (by simp [chkC, show Nat.beq 1 2 = false from rfl])
  · exact absurd hk (by simp [chkC, show Nat.beq 1 0 = false from rfl])
  · have hl : hasL (nth vlT (mt m).1 []) idx 1002 = true := by
      simp only [chkC, Bool.and_eq_true] at hk
      exact hk.1
    split at h
    · obtain ⟨hw, h⟩ := brK_b h
      simp only [Bool.and_eq_true] at hw
      exact n_clone hf hs hR1 hd hl (Nat.le_of_ble_eq_true hw.2) (Nat.eq_of_beq_eq_true hw.1) h
    · exact h.elim
  · have hl : hasL (nth vlT (mt m).1 []) idx 1003 = true := by
      simp only [chkC, Bool.and_eq_true] at hk
      exact hk.1
    split at h
    · obtain ⟨hw, h⟩ := brK_b h
      exact n_len hf hs hR hd hl (Nat.le_of_ble_eq_true hw) h
    · exact h.elim
  · have hl : hasL (nth vlT (mt m).1 []) idx 1004 = true := by
      simp only [chkC, Bool.and_eq_true] at hk
      exact hk.1
    split at h
    · obtain ⟨hw, h⟩ := brK_b h
      obtain ⟨ha, h⟩ := brK_b h
      exact n_char hf hs hR hd hl (Nat.le_of_ble_eq_true hw) (of_decide_eq_true ha) h
    · exact h.elim
  · exact absurd hk (by simp [chkC, show Nat.beq 1 0 = false from rfl])
  · exact absurd hk (by simp [chkC, show Nat.beq 1 0 = false from rfl])
  · exact absurd hk (by simp [chkC, show Nat.beq 1 0 = false from rfl])
  · exact h.elim
theorem s_invokespecial {idx : Nat} (hf : Fr p s mid args meth c D w m) (hs : St D w m k0 j0 L S M H locs cells slots ls) (hR : 5 ≤ R.frames ∧ 120 ≤ R.locals) (hd : decode (mB m) pc = .ok (.invokespecial idx, 3)) (hk : chkI m pc (.invokespecial idx, pc + 3, ax, cn) = true) (h : a_invokespecial (pc + 3) ax cn L S M (KW p l e R s mid args below meth c D w m k0 j0 Q) RR (CK p l e R s mid args below meth c D w m k0 j0 Q L M) False) : W p l e R s mid args below meth c H locs cells slots Q (F0 mid pc ls (S.map (cV w))) := by
  have hk : chkC m 2 idx ax = true := hk
  have hR1 : 1 ≤ R.frames ∧ 60 ≤ R.locals := ⟨by omega, by omega⟩
  unfold a_invokespecial callK at h
  split at h
  · rename_i y n mx ci rt x9
    obtain ⟨hb1, h⟩ := brK_b h
    simp only [Bool.and_eq_true] at hb1
    obtain ⟨⟨b1, b2⟩, b3⟩ := hb1
    replace b1 := Nat.le_of_ble_eq_true b1
    replace b2 := Nat.le_of_ble_eq_true b2
    replace b3 := Nat.le_of_ble_eq_true b3
    have hci : Nat.beq ci 0 = false := by
      simp only [chkC, Bool.and_eq_true, cond_false, show Nat.beq 2 0 = false from rfl] at hk
      have h9 := Nat.eq_of_beq_eq_true hk.2.1.1.2
      rw [h9]; rfl
    rw [hci] at h
    have h : (match (S.take n).reverse with
      | (2, a) :: _ => brK (Nat.beq (kd M.2.2 a + 1) ci) (CK p l e R s mid args below meth c D w m k0 j0 Q L M y (padTo mx (expand (S.take n).reverse)) (pc + 3) (S.drop n) rt) False
      | _ => False) := h
    split at h
    · rename_i a A' hA
      obtain ⟨hb2, h⟩ := brK_b h
      exact call_sp hf hs hd hk b1 b2 b3 hA (Nat.eq_of_beq_eq_true hb2) h
    · exact h.elim
  · have hl : hasL (nth vlT (mt m).1 []) idx 1000 = true := by
      simp only [chkC, Bool.and_eq_true] at hk
      exact hk.1
    split at h
    · obtain ⟨hw, h⟩ := brK_b h
      obtain ⟨ha, h⟩ := brK_n h
      exact n_oi hf hs hR1 hd hl (Nat.le_of_ble_eq_true hw) (of_decide_eq_false ha) h
    · exact h.elim
  · exact absurd hk (by simp [chkC, show Nat.beq 2 0 = false from rfl])
  · exact absurd hk (by simp [chkC, show Nat.beq 2 1 = false from rfl])
  · exact absurd hk (by simp [chkC, show Nat.beq 2 1 = false from rfl])
  · exact absurd hk (by simp [chkC, show Nat.beq 2 1 = false from rfl])
  · exact absurd hk (by simp [chkC, show Nat.beq 2 0 = false from rfl])
  · exact absurd hk (by simp [chkC, show Nat.beq 2 0 = false from rfl])
  · exact absurd hk (by simp [chkC, show Nat.beq 2 0 = false from rfl])
  · exact h.elim
set_option maxHeartbeats 4000000 in
/-- one step -/
theorem sim_step (hf : Fr p s mid args meth c D w m) (hs : St D w m k0 j0 L S M H locs cells slots ls) (hR : 5 ≤ R.frames ∧ 120 ≤ R.locals) (h : actK (fetch m pc).1 L S M (KW p l e R s mid args below meth c D w m k0 j0 Q) (RK p l e R s mid args below meth c D w m k0 j0 Q) (CK p l e R s mid args below meth c D w m k0 j0 Q L M) False) : W p l e R s mid args below meth c H locs cells slots Q (F0 mid pc ls (S.map (cV w))) := by
  have h0 := fetch_ok m pc
  generalize fetch m pc = F at h h0
  rcases h0 with h0 | h0
  · rw [h0] at h; exact h.elim
  obtain ⟨⟨i, nx, ax, cn⟩, ks⟩ := F
  simp only [chkE, Bool.and_eq_true, decide_eq_true_eq] at h0
  obtain ⟨⟨hd, hn⟩, hk⟩ := h0
  cases i with
  | iconst n =>
    obtain rfl : nx = pc + 1 := Nat.eq_of_beq_eq_true hn
    rw [Nat.add_sub_cancel_left] at hd
    exact s_iconst (ax := ax) (cn := cn) (RR := RK p l e R s mid args below meth c D w m k0 j0 Q) (CC := CK p l e R s mid args below meth c D w m k0 j0 Q L M) hf hs hd (show -2147483648 ≤ n ∧ n < 2147483648 from of_decide_eq_true hk) h
  | bipush n =>
    obtain rfl : nx = pc + 2 := Nat.eq_of_beq_eq_true hn
    rw [Nat.add_sub_cancel_left] at hd
    exact s_bipush (ax := ax) (cn := cn) (RR := RK p l e R s mid args below meth c D w m k0 j0 Q) (CC := CK p l e R s mid args below meth c D w m k0 j0 Q L M) hf hs hd (of_decide_eq_true hk) h
  | sipush n =>
    obtain rfl : nx = pc + 3 := Nat.eq_of_beq_eq_true hn
    rw [Nat.add_sub_cancel_left] at hd
    exact s_sipush (ax := ax) (cn := cn) (RR := RK p l e R s mid args below meth c D w m k0 j0 Q) (CC := CK p l e R s mid args below meth c D w m k0 j0 Q L M) hf hs hd (of_decide_eq_true hk) h
  | lconst n =>
    obtain rfl : nx = pc + 1 := Nat.eq_of_beq_eq_true hn
    rw [Nat.add_sub_cancel_left] at hd
    exact s_lconst (ax := ax) (cn := cn) (RR := RK p l e R s mid args below meth c D w m k0 j0 Q) (CC := CK p l e R s mid args below meth c D w m k0 j0 Q L M) hf hs hd h
  | aconst_null =>
    obtain rfl : nx = pc + 1 := Nat.eq_of_beq_eq_true hn
    rw [Nat.add_sub_cancel_left] at hd
    exact s_aconst_null (ax := ax) (cn := cn) (RR := RK p l e R s mid args below meth c D w m k0 j0 Q) (CC := CK p l e R s mid args below meth c D w m k0 j0 Q L M) hf hs hd h
  | iload_n k =>
    obtain rfl : nx = pc + 1 := Nat.eq_of_beq_eq_true hn
    rw [Nat.add_sub_cancel_left] at hd
    exact s_iload_n (ax := ax) (cn := cn) (RR := RK p l e R s mid args below meth c D w m k0 j0 Q) (CC := CK p l e R s mid args below meth c D w m k0 j0 Q L M) hf hs hd h
  | iload k =>
    obtain rfl : nx = pc + 2 := Nat.eq_of_beq_eq_true hn
    rw [Nat.add_sub_cancel_left] at hd
    exact s_iload (ax := ax) (cn := cn) (RR := RK p l e R s mid args below meth c D w m k0 j0 Q) (CC := CK p l e R s mid args below meth c D w m k0 j0 Q L M) hf hs hd h
  | lload_n k =>
    obtain rfl : nx = pc + 1 := Nat.eq_of_beq_eq_true hn
    rw [Nat.add_sub_cancel_left] at hd
    exact s_lload_n (ax := ax) (cn := cn) (RR := RK p l e R s mid args below meth c D w m k0 j0 Q) (CC := CK p l e R s mid args below meth c D w m k0 j0 Q L M) hf hs hd h
  | lload k =>
    obtain rfl : nx = pc + 2 := Nat.eq_of_beq_eq_true hn
    rw [Nat.add_sub_cancel_left] at hd
    exact s_lload (ax := ax) (cn := cn) (RR := RK p l e R s mid args below meth c D w m k0 j0 Q) (CC := CK p l e R s mid args below meth c D w m k0 j0 Q L M) hf hs hd h
  | aload_n k =>
    obtain rfl : nx = pc + 1 := Nat.eq_of_beq_eq_true hn
    rw [Nat.add_sub_cancel_left] at hd
    exact s_aload_n (ax := ax) (cn := cn) (RR := RK p l e R s mid args below meth c D w m k0 j0 Q) (CC := CK p l e R s mid args below meth c D w m k0 j0 Q L M) hf hs hd h
  | aload k =>
    obtain rfl : nx = pc + 2 := Nat.eq_of_beq_eq_true hn
    rw [Nat.add_sub_cancel_left] at hd
    exact s_aload (ax := ax) (cn := cn) (RR := RK p l e R s mid args below meth c D w m k0 j0 Q) (CC := CK p l e R s mid args below meth c D w m k0 j0 Q L M) hf hs hd h
  | istore_n k =>
    obtain rfl : nx = pc + 1 := Nat.eq_of_beq_eq_true hn
    rw [Nat.add_sub_cancel_left] at hd
    exact s_istore_n (ax := ax) (cn := cn) (RR := RK p l e R s mid args below meth c D w m k0 j0 Q) (CC := CK p l e R s mid args below meth c D w m k0 j0 Q L M) hf hs hd (by simpa [chkI] using hk) h
  | lstore_n k =>
    obtain rfl : nx = pc + 1 := Nat.eq_of_beq_eq_true hn
    rw [Nat.add_sub_cancel_left] at hd
    exact s_lstore_n (ax := ax) (cn := cn) (RR := RK p l e R s mid args below meth c D w m k0 j0 Q) (CC := CK p l e R s mid args below meth c D w m k0 j0 Q L M) hf hs hd (by simpa [chkI] using hk) h
  | astore_n k =>
    obtain rfl : nx = pc + 1 := Nat.eq_of_beq_eq_true hn
    rw [Nat.add_sub_cancel_left] at hd
    exact s_astore_n (ax := ax) (cn := cn) (RR := RK p l e R s mid args below meth c D w m k0 j0 Q) (CC := CK p l e R s mid args below meth c D w m k0 j0 Q L M) hf hs hd (by simpa [chkI] using hk) h
  | istore k =>
    obtain rfl : nx = pc + 2 := Nat.eq_of_beq_eq_true hn
    rw [Nat.add_sub_cancel_left] at hd
    exact s_istore (ax := ax) (cn := cn) (RR := RK p l e R s mid args below meth c D w m k0 j0 Q) (CC := CK p l e R s mid args below meth c D w m k0 j0 Q L M) hf hs hd (by simpa [chkI] using hk) h
  | lstore k =>
    obtain rfl : nx = pc + 2 := Nat.eq_of_beq_eq_true hn
    rw [Nat.add_sub_cancel_left] at hd
    exact s_lstore (ax := ax) (cn := cn) (RR := RK p l e R s mid args below meth c D w m k0 j0 Q) (CC := CK p l e R s mid args below meth c D w m k0 j0 Q L M) hf hs hd (by simpa [chkI] using hk) h
  | astore k =>
    obtain rfl : nx = pc + 2 := Nat.eq_of_beq_eq_true hn
    rw [Nat.add_sub_cancel_left] at hd
    exact s_astore (ax := ax) (cn := cn) (RR := RK p l e R s mid args below meth c D w m k0 j0 Q) (CC := CK p l e R s mid args below meth c D w m k0 j0 Q L M) hf hs hd (by simpa [chkI] using hk) h
  | iinc k n =>
    obtain rfl : nx = pc + 3 := Nat.eq_of_beq_eq_true hn
    rw [Nat.add_sub_cancel_left] at hd
    exact s_iinc (ax := ax) (cn := cn) (RR := RK p l e R s mid args below meth c D w m k0 j0 Q) (CC := CK p l e R s mid args below meth c D w m k0 j0 Q L M) hf hs hd (by simp only [chkI, Bool.and_eq_true] at hk; simpa using hk.1) (show -2147483648 ≤ n ∧ n < 2147483648 from by simp only [chkI, Bool.and_eq_true] at hk; exact of_decide_eq_true hk.2) h
  | iadd =>
    obtain rfl : nx = pc + 1 := Nat.eq_of_beq_eq_true hn
    rw [Nat.add_sub_cancel_left] at hd
    exact s_iadd (ax := ax) (cn := cn) (RR := RK p l e R s mid args below meth c D w m k0 j0 Q) (CC := CK p l e R s mid args below meth c D w m k0 j0 Q L M) hf hs hd h
  | isub =>
    obtain rfl : nx = pc + 1 := Nat.eq_of_beq_eq_true hn
    rw [Nat.add_sub_cancel_left] at hd
    exact s_isub (ax := ax) (cn := cn) (RR := RK p l e R s mid args below meth c D w m k0 j0 Q) (CC := CK p l e R s mid args below meth c D w m k0 j0 Q L M) hf hs hd h
  | imul =>
    obtain rfl : nx = pc + 1 := Nat.eq_of_beq_eq_true hn
    rw [Nat.add_sub_cancel_left] at hd
    exact s_imul (ax := ax) (cn := cn) (RR := RK p l e R s mid args below meth c D w m k0 j0 Q) (CC := CK p l e R s mid args below meth c D w m k0 j0 Q L M) hf hs hd h
  | iand =>
    obtain rfl : nx = pc + 1 := Nat.eq_of_beq_eq_true hn
    rw [Nat.add_sub_cancel_left] at hd
    exact s_iand (ax := ax) (cn := cn) (RR := RK p l e R s mid args below meth c D w m k0 j0 Q) (CC := CK p l e R s mid args below meth c D w m k0 j0 Q L M) hf hs hd h
  | ior =>
    obtain rfl : nx = pc + 1 := Nat.eq_of_beq_eq_true hn
    rw [Nat.add_sub_cancel_left] at hd
    exact s_ior (ax := ax) (cn := cn) (RR := RK p l e R s mid args below meth c D w m k0 j0 Q) (CC := CK p l e R s mid args below meth c D w m k0 j0 Q L M) hf hs hd h
  | ixor =>
    obtain rfl : nx = pc + 1 := Nat.eq_of_beq_eq_true hn
    rw [Nat.add_sub_cancel_left] at hd
    exact s_ixor (ax := ax) (cn := cn) (RR := RK p l e R s mid args below meth c D w m k0 j0 Q) (CC := CK p l e R s mid args below meth c D w m k0 j0 Q L M) hf hs hd h
  | ishl =>
    obtain rfl : nx = pc + 1 := Nat.eq_of_beq_eq_true hn
    rw [Nat.add_sub_cancel_left] at hd
    exact s_ishl (ax := ax) (cn := cn) (RR := RK p l e R s mid args below meth c D w m k0 j0 Q) (CC := CK p l e R s mid args below meth c D w m k0 j0 Q L M) hf hs hd h
  | ishr =>
    obtain rfl : nx = pc + 1 := Nat.eq_of_beq_eq_true hn
    rw [Nat.add_sub_cancel_left] at hd
    exact s_ishr (ax := ax) (cn := cn) (RR := RK p l e R s mid args below meth c D w m k0 j0 Q) (CC := CK p l e R s mid args below meth c D w m k0 j0 Q L M) hf hs hd h
  | iushr =>
    obtain rfl : nx = pc + 1 := Nat.eq_of_beq_eq_true hn
    rw [Nat.add_sub_cancel_left] at hd
    exact s_iushr (ax := ax) (cn := cn) (RR := RK p l e R s mid args below meth c D w m k0 j0 Q) (CC := CK p l e R s mid args below meth c D w m k0 j0 Q L M) hf hs hd h
  | idiv =>
    obtain rfl : nx = pc + 1 := Nat.eq_of_beq_eq_true hn
    rw [Nat.add_sub_cancel_left] at hd
    exact s_idiv (ax := ax) (cn := cn) (RR := RK p l e R s mid args below meth c D w m k0 j0 Q) (CC := CK p l e R s mid args below meth c D w m k0 j0 Q L M) hf hs hd h
  | irem =>
    obtain rfl : nx = pc + 1 := Nat.eq_of_beq_eq_true hn
    rw [Nat.add_sub_cancel_left] at hd
    exact s_irem (ax := ax) (cn := cn) (RR := RK p l e R s mid args below meth c D w m k0 j0 Q) (CC := CK p l e R s mid args below meth c D w m k0 j0 Q L M) hf hs hd h
  | ldiv =>
    obtain rfl : nx = pc + 1 := Nat.eq_of_beq_eq_true hn
    rw [Nat.add_sub_cancel_left] at hd
    exact s_ldiv (ax := ax) (cn := cn) (RR := RK p l e R s mid args below meth c D w m k0 j0 Q) (CC := CK p l e R s mid args below meth c D w m k0 j0 Q L M) hf hs hd h
  | lrem =>
    obtain rfl : nx = pc + 1 := Nat.eq_of_beq_eq_true hn
    rw [Nat.add_sub_cancel_left] at hd
    exact s_lrem (ax := ax) (cn := cn) (RR := RK p l e R s mid args below meth c D w m k0 j0 Q) (CC := CK p l e R s mid args below meth c D w m k0 j0 Q L M) hf hs hd h
  | ladd =>
    obtain rfl : nx = pc + 1 := Nat.eq_of_beq_eq_true hn
    rw [Nat.add_sub_cancel_left] at hd
    exact s_ladd (ax := ax) (cn := cn) (RR := RK p l e R s mid args below meth c D w m k0 j0 Q) (CC := CK p l e R s mid args below meth c D w m k0 j0 Q L M) hf hs hd h
  | lsub =>
    obtain rfl : nx = pc + 1 := Nat.eq_of_beq_eq_true hn
    rw [Nat.add_sub_cancel_left] at hd
    exact s_lsub (ax := ax) (cn := cn) (RR := RK p l e R s mid args below meth c D w m k0 j0 Q) (CC := CK p l e R s mid args below meth c D w m k0 j0 Q L M) hf hs hd h
  | lmul =>
    obtain rfl : nx = pc + 1 := Nat.eq_of_beq_eq_true hn
    rw [Nat.add_sub_cancel_left] at hd
    exact s_lmul (ax := ax) (cn := cn) (RR := RK p l e R s mid args below meth c D w m k0 j0 Q) (CC := CK p l e R s mid args below meth c D w m k0 j0 Q L M) hf hs hd h
  | lor =>
    obtain rfl : nx = pc + 1 := Nat.eq_of_beq_eq_true hn
    rw [Nat.add_sub_cancel_left] at hd
    exact s_lor (ax := ax) (cn := cn) (RR := RK p l e R s mid args below meth c D w m k0 j0 Q) (CC := CK p l e R s mid args below meth c D w m k0 j0 Q L M) hf hs hd h
  | ineg =>
    obtain rfl : nx = pc + 1 := Nat.eq_of_beq_eq_true hn
    rw [Nat.add_sub_cancel_left] at hd
    exact s_ineg (ax := ax) (cn := cn) (RR := RK p l e R s mid args below meth c D w m k0 j0 Q) (CC := CK p l e R s mid args below meth c D w m k0 j0 Q L M) hf hs hd h
  | lneg =>
    obtain rfl : nx = pc + 1 := Nat.eq_of_beq_eq_true hn
    rw [Nat.add_sub_cancel_left] at hd
    exact s_lneg (ax := ax) (cn := cn) (RR := RK p l e R s mid args below meth c D w m k0 j0 Q) (CC := CK p l e R s mid args below meth c D w m k0 j0 Q L M) hf hs hd h
  | lcmp =>
    obtain rfl : nx = pc + 1 := Nat.eq_of_beq_eq_true hn
    rw [Nat.add_sub_cancel_left] at hd
    exact s_lcmp (ax := ax) (cn := cn) (RR := RK p l e R s mid args below meth c D w m k0 j0 Q) (CC := CK p l e R s mid args below meth c D w m k0 j0 Q L M) hf hs hd h
  | i2l =>
    obtain rfl : nx = pc + 1 := Nat.eq_of_beq_eq_true hn
    rw [Nat.add_sub_cancel_left] at hd
    exact s_i2l (ax := ax) (cn := cn) (RR := RK p l e R s mid args below meth c D w m k0 j0 Q) (CC := CK p l e R s mid args below meth c D w m k0 j0 Q L M) hf hs hd h
  | l2i =>
    obtain rfl : nx = pc + 1 := Nat.eq_of_beq_eq_true hn
    rw [Nat.add_sub_cancel_left] at hd
    exact s_l2i (ax := ax) (cn := cn) (RR := RK p l e R s mid args below meth c D w m k0 j0 Q) (CC := CK p l e R s mid args below meth c D w m k0 j0 Q L M) hf hs hd h
  | i2b =>
    obtain rfl : nx = pc + 1 := Nat.eq_of_beq_eq_true hn
    rw [Nat.add_sub_cancel_left] at hd
    exact s_i2b (ax := ax) (cn := cn) (RR := RK p l e R s mid args below meth c D w m k0 j0 Q) (CC := CK p l e R s mid args below meth c D w m k0 j0 Q L M) hf hs hd h
  | dup =>
    obtain rfl : nx = pc + 1 := Nat.eq_of_beq_eq_true hn
    rw [Nat.add_sub_cancel_left] at hd
    exact s_dup (ax := ax) (cn := cn) (RR := RK p l e R s mid args below meth c D w m k0 j0 Q) (CC := CK p l e R s mid args below meth c D w m k0 j0 Q L M) hf hs hd h
  | dup2 =>
    obtain rfl : nx = pc + 1 := Nat.eq_of_beq_eq_true hn
    rw [Nat.add_sub_cancel_left] at hd
    exact s_dup2 (ax := ax) (cn := cn) (RR := RK p l e R s mid args below meth c D w m k0 j0 Q) (CC := CK p l e R s mid args below meth c D w m k0 j0 Q L M) hf hs hd h
  | pop =>
    obtain rfl : nx = pc + 1 := Nat.eq_of_beq_eq_true hn
    rw [Nat.add_sub_cancel_left] at hd
    exact s_pop (ax := ax) (cn := cn) (RR := RK p l e R s mid args below meth c D w m k0 j0 Q) (CC := CK p l e R s mid args below meth c D w m k0 j0 Q L M) hf hs hd h
  | ifCond cd off =>
    obtain rfl : nx = pc + 3 := Nat.eq_of_beq_eq_true hn
    rw [Nat.add_sub_cancel_left] at hd
    exact s_ifCond (ax := ax) (cn := cn) (RR := RK p l e R s mid args below meth c D w m k0 j0 Q) (CC := CK p l e R s mid args below meth c D w m k0 j0 Q L M) hf hs hd hk h
  | if_icmp cd off =>
    obtain rfl : nx = pc + 3 := Nat.eq_of_beq_eq_true hn
    rw [Nat.add_sub_cancel_left] at hd
    exact s_if_icmp (ax := ax) (cn := cn) (RR := RK p l e R s mid args below meth c D w m k0 j0 Q) (CC := CK p l e R s mid args below meth c D w m k0 j0 Q L M) hf hs hd hk h
  | ifnull off =>
    obtain rfl : nx = pc + 3 := Nat.eq_of_beq_eq_true hn
    rw [Nat.add_sub_cancel_left] at hd
    exact s_ifnull (ax := ax) (cn := cn) (RR := RK p l e R s mid args below meth c D w m k0 j0 Q) (CC := CK p l e R s mid args below meth c D w m k0 j0 Q L M) hf hs hd hk h
  | ifnonnull off =>
    obtain rfl : nx = pc + 3 := Nat.eq_of_beq_eq_true hn
    rw [Nat.add_sub_cancel_left] at hd
    exact s_ifnonnull (ax := ax) (cn := cn) (RR := RK p l e R s mid args below meth c D w m k0 j0 Q) (CC := CK p l e R s mid args below meth c D w m k0 j0 Q L M) hf hs hd hk h
  | goto off =>
    obtain rfl : nx = pc + 3 := Nat.eq_of_beq_eq_true hn
    rw [Nat.add_sub_cancel_left] at hd
    exact s_goto (ax := ax) (cn := cn) (RR := RK p l e R s mid args below meth c D w m k0 j0 Q) (CC := CK p l e R s mid args below meth c D w m k0 j0 Q L M) hf hs hd hk h
  | ldc idx =>
    obtain rfl : nx = pc + 2 := Nat.eq_of_beq_eq_true hn
    rw [Nat.add_sub_cancel_left] at hd
    exact s_ldc (ax := ax) (cn := cn) (RR := RK p l e R s mid args below meth c D w m k0 j0 Q) (CC := CK p l e R s mid args below meth c D w m k0 j0 Q L M) hf hs hd hk h
  | ldc_w idx =>
    obtain rfl : nx = pc + 3 := Nat.eq_of_beq_eq_true hn
    rw [Nat.add_sub_cancel_left] at hd
    exact s_ldc_w (ax := ax) (cn := cn) (RR := RK p l e R s mid args below meth c D w m k0 j0 Q) (CC := CK p l e R s mid args below meth c D w m k0 j0 Q L M) hf hs hd hk h
  | ldc2_w idx =>
    obtain rfl : nx = pc + 3 := Nat.eq_of_beq_eq_true hn
    rw [Nat.add_sub_cancel_left] at hd
    exact s_ldc2_w (ax := ax) (cn := cn) (RR := RK p l e R s mid args below meth c D w m k0 j0 Q) (CC := CK p l e R s mid args below meth c D w m k0 j0 Q L M) hf hs hd hk h
  | getfield idx =>
    obtain rfl : nx = pc + 3 := Nat.eq_of_beq_eq_true hn
    rw [Nat.add_sub_cancel_left] at hd
    exact s_getfield (ax := ax) (cn := cn) (RR := RK p l e R s mid args below meth c D w m k0 j0 Q) (CC := CK p l e R s mid args below meth c D w m k0 j0 Q L M) hf hs hd hk h
  | putfield idx =>
    obtain rfl : nx = pc + 3 := Nat.eq_of_beq_eq_true hn
    rw [Nat.add_sub_cancel_left] at hd
    exact s_putfield (ax := ax) (cn := cn) (RR := RK p l e R s mid args below meth c D w m k0 j0 Q) (CC := CK p l e R s mid args below meth c D w m k0 j0 Q L M) hf hs hd hk h
  | arraylength =>
    obtain rfl : nx = pc + 1 := Nat.eq_of_beq_eq_true hn
    rw [Nat.add_sub_cancel_left] at hd
    exact s_arraylength (ax := ax) (cn := cn) (RR := RK p l e R s mid args below meth c D w m k0 j0 Q) (CC := CK p l e R s mid args below meth c D w m k0 j0 Q L M) hf hs hd h
  | iaload =>
    obtain rfl : nx = pc + 1 := Nat.eq_of_beq_eq_true hn
    rw [Nat.add_sub_cancel_left] at hd
    exact s_iaload (ax := ax) (cn := cn) (RR := RK p l e R s mid args below meth c D w m k0 j0 Q) (CC := CK p l e R s mid args below meth c D w m k0 j0 Q L M) hf hs hd h
  | laload =>
    obtain rfl : nx = pc + 1 := Nat.eq_of_beq_eq_true hn
    rw [Nat.add_sub_cancel_left] at hd
    exact s_laload (ax := ax) (cn := cn) (RR := RK p l e R s mid args below meth c D w m k0 j0 Q) (CC := CK p l e R s mid args below meth c D w m k0 j0 Q L M) hf hs hd h
  | aaload =>
    obtain rfl : nx = pc + 1 := Nat.eq_of_beq_eq_true hn
    rw [Nat.add_sub_cancel_left] at hd
    exact s_aaload (ax := ax) (cn := cn) (RR := RK p l e R s mid args below meth c D w m k0 j0 Q) (CC := CK p l e R s mid args below meth c D w m k0 j0 Q L M) hf hs hd h
  | baload =>
    obtain rfl : nx = pc + 1 := Nat.eq_of_beq_eq_true hn
    rw [Nat.add_sub_cancel_left] at hd
    exact s_baload (ax := ax) (cn := cn) (RR := RK p l e R s mid args below meth c D w m k0 j0 Q) (CC := CK p l e R s mid args below meth c D w m k0 j0 Q L M) hf hs hd h
  | iastore =>
    obtain rfl : nx = pc + 1 := Nat.eq_of_beq_eq_true hn
    rw [Nat.add_sub_cancel_left] at hd
    exact s_iastore (ax := ax) (cn := cn) (RR := RK p l e R s mid args below meth c D w m k0 j0 Q) (CC := CK p l e R s mid args below meth c D w m k0 j0 Q L M) hf hs hd h
  | lastore =>
    obtain rfl : nx = pc + 1 := Nat.eq_of_beq_eq_true hn
    rw [Nat.add_sub_cancel_left] at hd
    exact s_lastore (ax := ax) (cn := cn) (RR := RK p l e R s mid args below meth c D w m k0 j0 Q) (CC := CK p l e R s mid args below meth c D w m k0 j0 Q L M) hf hs hd h
  | bastore =>
    obtain rfl : nx = pc + 1 := Nat.eq_of_beq_eq_true hn
    rw [Nat.add_sub_cancel_left] at hd
    exact s_bastore (ax := ax) (cn := cn) (RR := RK p l e R s mid args below meth c D w m k0 j0 Q) (CC := CK p l e R s mid args below meth c D w m k0 j0 Q L M) hf hs hd h
  | newarray t =>
    obtain rfl : nx = pc + 2 := Nat.eq_of_beq_eq_true hn
    rw [Nat.add_sub_cancel_left] at hd
    exact s_newarray (ax := ax) (cn := cn) (RR := RK p l e R s mid args below meth c D w m k0 j0 Q) (CC := CK p l e R s mid args below meth c D w m k0 j0 Q L M) hf hs hd hk h
  | tableswitch d lo hi offs =>
    exact s_tableswitch (ax := ax) (cn := cn) (RR := RK p l e R s mid args below meth c D w m k0 j0 Q) (CC := CK p l e R s mid args below meth c D w m k0 j0 Q L M) hf hs hd hk h
  | lookupswitch d ps =>
    exact s_lookupswitch (ax := ax) (cn := cn) (RR := RK p l e R s mid args below meth c D w m k0 j0 Q) (CC := CK p l e R s mid args below meth c D w m k0 j0 Q L M) hf hs hd hk h
  | new idx =>
    obtain rfl : nx = pc + 3 := Nat.eq_of_beq_eq_true hn
    rw [Nat.add_sub_cancel_left] at hd
    exact s_new (ax := ax) (cn := cn) (RR := RK p l e R s mid args below meth c D w m k0 j0 Q) (CC := CK p l e R s mid args below meth c D w m k0 j0 Q L M) hf hs hd hk h
  | anewarray idx =>
    obtain rfl : nx = pc + 3 := Nat.eq_of_beq_eq_true hn
    rw [Nat.add_sub_cancel_left] at hd
    exact s_anewarray (ax := ax) (cn := cn) (RR := RK p l e R s mid args below meth c D w m k0 j0 Q) (CC := CK p l e R s mid args below meth c D w m k0 j0 Q L M) hf hs hd hk h
  | checkcast idx =>
    obtain rfl : nx = pc + 3 := Nat.eq_of_beq_eq_true hn
    rw [Nat.add_sub_cancel_left] at hd
    exact s_checkcast (ax := ax) (cn := cn) (RR := RK p l e R s mid args below meth c D w m k0 j0 Q) (CC := CK p l e R s mid args below meth c D w m k0 j0 Q L M) hf hs hd hk h
  | aastore =>
    obtain rfl : nx = pc + 1 := Nat.eq_of_beq_eq_true hn
    rw [Nat.add_sub_cancel_left] at hd
    exact s_aastore (ax := ax) (cn := cn) (RR := RK p l e R s mid args below meth c D w m k0 j0 Q) (CC := CK p l e R s mid args below meth c D w m k0 j0 Q L M) hf hs hd h
  | ireturn =>
    obtain rfl : nx = pc + 1 := Nat.eq_of_beq_eq_true hn
    rw [Nat.add_sub_cancel_left] at hd
    exact s_ireturn (nx := pc + 1) (ax := ax) (cn := cn) (KK := KW p l e R s mid args below meth c D w m k0 j0 Q) (CC := CK p l e R s mid args below meth c D w m k0 j0 Q L M) hs hd hk h
  | lreturn =>
    obtain rfl : nx = pc + 1 := Nat.eq_of_beq_eq_true hn
    rw [Nat.add_sub_cancel_left] at hd
    exact s_lreturn (nx := pc + 1) (ax := ax) (cn := cn) (KK := KW p l e R s mid args below meth c D w m k0 j0 Q) (CC := CK p l e R s mid args below meth c D w m k0 j0 Q L M) hs hd hk h
  | areturn =>
    obtain rfl : nx = pc + 1 := Nat.eq_of_beq_eq_true hn
    rw [Nat.add_sub_cancel_left] at hd
    exact s_areturn (nx := pc + 1) (ax := ax) (cn := cn) (KK := KW p l e R s mid args below meth c D w m k0 j0 Q) (CC := CK p l e R s mid args below meth c D w m k0 j0 Q L M) hs hd hk h
  | return_ =>
    obtain rfl : nx = pc + 1 := Nat.eq_of_beq_eq_true hn
    rw [Nat.add_sub_cancel_left] at hd
    exact s_return_ (nx := pc + 1) (ax := ax) (cn := cn) (KK := KW p l e R s mid args below meth c D w m k0 j0 Q) (CC := CK p l e R s mid args below meth c D w m k0 j0 Q L M) hs hd hk h
  | lshl =>
    obtain rfl : nx = pc + 1 := Nat.eq_of_beq_eq_true hn
    rw [Nat.add_sub_cancel_left] at hd
    exact s_lshl (ax := ax) (cn := cn) (RR := RK p l e R s mid args below meth c D w m k0 j0 Q) (CC := CK p l e R s mid args below meth c D w m k0 j0 Q L M) hf hs hd h
  | lshr =>
    obtain rfl : nx = pc + 1 := Nat.eq_of_beq_eq_true hn
    rw [Nat.add_sub_cancel_left] at hd
    exact s_lshr (ax := ax) (cn := cn) (RR := RK p l e R s mid args below meth c D w m k0 j0 Q) (CC := CK p l e R s mid args below meth c D w m k0 j0 Q L M) hf hs hd h
  | invokestatic idx =>
    obtain rfl : nx = pc + 3 := Nat.eq_of_beq_eq_true hn
    rw [Nat.add_sub_cancel_left] at hd
    exact s_invokestatic (ax := ax) (cn := cn) (RR := RK p l e R s mid args below meth c D w m k0 j0 Q) hf hs hR hd hk h
  | invokevirtual idx =>
    obtain rfl : nx = pc + 3 := Nat.eq_of_beq_eq_true hn
    rw [Nat.add_sub_cancel_left] at hd
    exact s_invokevirtual (ax := ax) (cn := cn) (RR := RK p l e R s mid args below meth c D w m k0 j0 Q) hf hs hR hd hk h
  | invokespecial idx =>
    obtain rfl : nx = pc + 3 := Nat.eq_of_beq_eq_true hn
    rw [Nat.add_sub_cancel_left] at hd
    exact s_invokespecial (ax := ax) (cn := cn) (RR := RK p l e R s mid args below meth c D w m k0 j0 Q) hf hs hR hd hk h
  | _ => exact (show False from h).elim
end
end
