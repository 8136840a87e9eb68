/-! THE STRING CONSTANT: length, charAt (the library's own methods, walked) -/
noncomputable section
def rmS (k : Nat) : Room := { frames := k, cells := 0, slots := 0, locals := 22 * k }
def yP : MethodName := ⟨"jdk/internal/util/Preconditions", "checkIndex", "(IILjava/util/function/BiFunction;)I"⟩
def yC : MethodName := ⟨"java/lang/String", "checkIndex", "(II)V"⟩
def yA : MethodName := ⟨"java/lang/StringLatin1", "charAt", "([BI)C"⟩
def yL : MethodName := ⟨"java/lang/String", "isLatin1", "()Z"⟩
def yD : MethodName := ⟨"java/lang/String", "coder", "()B"⟩
def yN : MethodName := ⟨"java/lang/String", "length", "()I"⟩
def yH : MethodName := ⟨"java/lang/String", "charAt", "(I)C"⟩
abbrev wsN (y : MethodName) (cc : ByteArray) (n : Nat) (r : Option FieldType) : List Cond := Cond.code y cc n r :: gws
theorem nw_P : Cond.code yP prog_23_method_11_code 3 (some .int) ∈ gws := gws_in (in_t3 (List.mem_of_getElem? (i := 165) rfl)) rfl
theorem nw_C : Cond.code yC prog_18_method_155_code 2 none ∈ gws := gws_in (in_t3 (List.mem_of_getElem? (i := 160) rfl)) rfl
theorem nw_A : Cond.code yA prog_19_method_2_code 2 (some .char) ∈ gws := gws_in (in_t3 (List.mem_of_getElem? (i := 157) rfl)) rfl
theorem nw_L : Cond.code yL prog_18_method_154_code 1 (some .boolean) ∈ gws := gws_in (in_t3 (List.mem_of_getElem? (i := 154) rfl)) rfl
theorem nw_D : Cond.code yD prog_18_method_152_code 1 (some .byte) ∈ gws := gws_in (in_t3 (List.mem_of_getElem? (i := 144) rfl)) rfl
theorem nw_N : Cond.code yN prog_18_method_54_code 1 (some .int) ∈ gws := gws_in (in_t3 (List.mem_of_getElem? (i := 140) rfl)) rfl
theorem nw_H : Cond.code yH prog_18_method_56_code 2 (some .char) ∈ gws := gws_in (in_t3 (List.mem_of_getElem? (i := 150) rfl)) rfl
theorem nw_iS : Cond.initialized "java/lang/String" ∈ gws := gw_at (k := 15) (by decide +kernel) rfl
theorem nw_iL : Cond.initialized "java/lang/StringLatin1" ∈ gws := gw_at (k := 16) (by decide +kernel) rfl
theorem nw_iP : Cond.initialized "jdk/internal/util/Preconditions" ∈ gws := gw_at (k := 17) (by decide +kernel) rfl
theorem nw_mD : Cond.methodLink "java/lang/String" 335 yD ∈ gws := gw_at (k := 621) (by decide +kernel) rfl
theorem nw_mL : Cond.methodLink "java/lang/String" 492 yL ∈ gws := gw_at (k := 631) (by decide +kernel) rfl
theorem nw_mA : Cond.methodLink "java/lang/String" 495 yA ∈ gws := gw_at (k := 635) (by decide +kernel) rfl
theorem nw_mC : Cond.methodLink "java/lang/StringLatin1" 9 yC ∈ gws := gw_at (k := 638) (by decide +kernel) rfl
theorem nw_mP : Cond.methodLink "java/lang/String" 1059 yP ∈ gws := gw_at (k := 643) (by decide +kernel) rfl
theorem nw_sA : Cond.static yA ∈ gws := gw_at (k := 636) (by decide +kernel) rfl
theorem nw_sC : Cond.static yC ∈ gws := gw_at (k := 639) (by decide +kernel) rfl
theorem nw_sP : Cond.static yP ∈ gws := gw_at (k := 644) (by decide +kernel) rfl
theorem nw_nN : Cond.instanceMethod yN ∈ gws := gw_at (k := 618) (by decide +kernel) rfl
theorem nw_nD : Cond.instanceMethod yD ∈ gws := gw_at (k := 622) (by decide +kernel) rfl
theorem nw_nH : Cond.instanceMethod yH ∈ gws := gw_at (k := 628) (by decide +kernel) rfl
theorem nw_nL : Cond.instanceMethod yL ∈ gws := gw_at (k := 632) (by decide +kernel) rfl
theorem nw_eN : Cond.selects "java/lang/String" yN yN ∈ gws := gw_at (k := 619) (by decide +kernel) rfl
theorem nw_eD : Cond.selects "java/lang/String" yD yD ∈ gws := gw_at (k := 623) (by decide +kernel) rfl
theorem nw_eH : Cond.selects "java/lang/String" yH yH ∈ gws := gw_at (k := 629) (by decide +kernel) rfl
theorem nw_eL : Cond.selects "java/lang/String" yL yL ∈ gws := gw_at (k := 633) (by decide +kernel) rfl
theorem nw_f9 : Cond.fieldLink "java/lang/String" 9 "java/lang/String" "value" "[B" ∈ gws := gw_at (k := 1983) (by decide +kernel) rfl
theorem nw_f15 : Cond.fieldLink "java/lang/String" 15 "java/lang/String" "coder" "B" ∈ gws := gw_at (k := 1984) (by decide +kernel) rfl
theorem nw_f38 : Cond.fieldLink "java/lang/String" 38 "java/lang/String" "COMPACT_STRINGS" "Z" ∈ gws := gw_at (k := 625) (by decide +kernel) rfl
theorem nw_f1053 : Cond.fieldLink "java/lang/String" 1053 "jdk/internal/util/Preconditions" "SIOOBE_FORMATTER" "Ljava/util/function/BiFunction;" ∈ gws := gw_at (k := 641) (by decide +kernel) rfl
theorem good_N {y : MethodName} {cc : ByteArray} {n : Nat} {r : Option FieldType} (hc : Cond.code y cc n r ∈ gws) : GoodIn gws (wsN y cc n r) := by
  intro wd hw
  rcases List.mem_cons.mp hw with h1 | h1
  · rw [h1]; exact ⟨hc, good_of_word (gws_good hc).2⟩
  · exact ⟨h1, good_of_word (gws_good h1).2⟩
theorem sS {A : Nat → Prop} (H : Heap) : va_S A H H [] := ⟨Nat.le_refl _, fun _ _ _ => rfl, fun _ h => absurd h List.not_mem_nil⟩
def QcN : Array Value → State → Outcome → State → Prop := fun _ st o t => o = .returned none ∧ t.heap = st.heap
section
variable {p : Program} {l : Launch} {e : Env} {R : Room} {s : State} {m : MethodId} {args : Array Value} {below : List Frame} {meth : Method} {c : Code} {H : Heap} {locs : List Loc} {cells slots : Nat} {Q : State → Prop} {rest : List Value} {g : JFrame} {a : Array Value}
theorem call_N (hr : CallRun p l e R s m args below meth c H locs cells slots 0 0 g rest (QcN a) (fun _ => False)) (kk : W p l e R s m args below meth c H locs cells slots Q { g with pc := g.pc + 3, stack := rest }) : W p l e R s m args below meth c H locs cells slots Q g := by
  intro T hT X
  obtain ⟨v, st₀, t, T', L, h0, X', hL, e1, ⟨hv, hh⟩, st⟩ := hr T hT X
  cases hv
  obtain ⟨t2, a1, b1⟩ := kk T' (by rw [e1, hh, h0]) (Stand.forget X' (fun q h => (hL q h).elim))
  exact ⟨t2, st t2 a1, b1⟩
end
section
variable {p : Program} {l : Launch} {e : Env} {R : Room} {s : State} {m : MethodId} {args : Array Value} {below : List Frame} {meth : Method} {c : Code} {H : Heap} {locs : List Loc} {cells slots : Nat} {Q : State → Prop} {rest st : List Value} {pc : Nat} {ls : Array Slot} {a : Array Value} {r : Int32}
theorem callN0 (hr : CallRun p l e R s m args below meth c H locs cells slots 0 0 (F0 m pc ls st) rest (QcN a) (fun _ => False)) (kk : W p l e R s m args below meth c H locs cells slots Q (F0 m (pc + 3) ls rest)) : W p l e R s m args below meth c H locs cells slots Q (F0 m pc ls st) := call_N hr kk
theorem alen0 {cc : ByteArray} {n : Int32} (hexec : p.tables.exec = Jvm.exec) (hb : c.code = cc) {q : Addr} {cell : Cell} {ty : FieldType} (hcell : H[q]? = some cell) (harr : s.isArrayOf cell ty)
    (hn : cell.slots.size.toInt32 = n) (hdg : decode cc pc = .ok (.arraylength, 1)) (kk : W p l e R s m args below meth c H locs cells slots Q (F0 m (pc + 1) ls (.int n :: rest))) : W p l e R s m args below meth c H locs cells slots Q (F0 m pc ls (.ref q :: rest)) := W.alen hexec hb hcell harr hn rfl rfl hdg kk
theorem callR0 (hr : CallRun p l e R s m args below meth c H locs cells slots 0 0 (F0 m pc ls st) rest (QcRead r a) (fun _ => False)) (kk : W p l e R s m args below meth c H locs cells slots Q (F0 m (pc + 3) ls (.int r :: rest))) : W p l e R s m args below meth c H locs cells slots Q (F0 m pc ls st) := W.callR hr kk
end
theorem js_p (l : Launch) {i n : Int32} {v : Value} (h0 : ¬ i < 0) (h1 : i < n) : Met l yP (wsN yP prog_23_method_11_code 3 (some .int)) (rmS 0) (fun a _ => a = ([.int i, .int n, v] : List Value).toArray) (QcRead i) 0 0 (fun _ => False) := by
  refine Met.ofW (cc := prog_23_method_11_code) (maxL := 3) (ret := some .int) (by decide) rfl ?_
  intro p e s m args below meth c s₁ B hml hP
  have hx := B.exec
  have hb := B.bytes
  have hlk := B.notSynchronized
  rw [hP, lg_entry_eq]
  refine lv_iload_n hx hb (k := 0) (i := 0) (x := i) (by decide +kernel) rfl rfl ?_
  refine lv_if_lt hx hb (off := 8) (tgt := 9) (by decide +kernel) (by decide) (fun h => absurd h h0) (fun _ => ?_)
  refine lv_iload_n hx hb (k := 0) (i := 0) (x := i) (by decide +kernel) rfl rfl ?_
  refine lv_iload_n hx hb (k := 1) (i := 1) (x := n) (by decide +kernel) rfl rfl ?_
  refine lv_icmp_lt hx hb (off := 10) (tgt := 16) (by decide +kernel) (by decide) (fun _ => ?_) (fun h => absurd h1 h)
  refine lv_iload_n hx hb (k := 0) (i := 0) (x := i) (by decide +kernel) rfl rfl ?_
  exact W.iret hx hb B.returns (fun t ht _ => ⟨rfl, ht⟩) (fun _ h => absurd h List.not_mem_nil) (by decide +kernel) (hlocks := hlk)
theorem js_c (l : Launch) {w : WD} {zv : Nat} {i n : Int32} (h0 : ¬ i < 0) (h1 : i < n) : Met l yC (wsN yC prog_18_method_155_code 2 none) (rmS 1) (fun a U => a = ([.int i, .int n] : List Value).toArray ∧ JS w zv U U.heap) QcN 0 0 (fun _ => False) := by
  refine Met.ofW (cc := prog_18_method_155_code) (maxL := 2) (ret := none) (by decide) rfl ?_
  intro p e s m args below meth c s₁ B hml hP
  have hx := B.exec
  have hb := B.bytes
  have hlk := B.notSynchronized
  have hts : ∀ wd ∈ gws, wd.before args s = true := fun wd hwd => atoms_spec (ws := wsN yC prog_18_method_155_code 2 none) B.pre wd (List.mem_cons_of_mem _ hwd)
  have hown : s.vm.findClass "java/lang/String" = some m.cls := findClass_of_methodNamed B.named
  obtain ⟨ha, hJ⟩ := hP
  have key : ∀ v : Value, va_Z "jdk/internal/util/Preconditions" "SIOOBE_FORMATTER" "Ljava/util/function/BiFunction;" v (fun q => w.2.2.1 ≤ q) s s.heap → v.category = 1 → W p l e (headSpec (wsN yC prog_18_method_155_code 2 none) (rmS 1)).room s m args below meth c s.heap [] 0 0 (MQ below QcN args s 0 0 (fun _ => False)) (entryFrame m args 2) := by
    intro v hZ hv
    conv => arg 16; rw [ha]
    rw [lg_entry_eq]
    refine lv_iload_n hx hb (k := 0) (i := 0) (x := i) (by decide +kernel) rfl rfl ?_
    refine lv_iload_n hx hb (k := 1) (i := 1) (x := n) (by decide +kernel) rfl rfl ?_
    refine va_gets hx hb hZ (sS s.heap) hown (hts _ nw_f1053) (fun _ h => h) (by decide +kernel) ?_
    refine callR0 (W.runS (Ts := gws) (own := "java/lang/String") (n := 3) (As := [.int i, .int n, v]) (rest := []) ⟨hx, hb, hml, hown, hts⟩ (js_p l (v := v) h0 h1) ⟨callB_of 3 hts (good_N nw_P) rfl rfl rfl (hts _ nw_iP) (hts _ nw_mP) ⟨by decide, by decide, by decide +kernel⟩ ⟨by decide, by decide⟩, hts _ nw_sP⟩ ⟨fun a U g mk h => h, fun U _ _ => rfl⟩ rfl rfl rfl rfl (Nat.le_of_ble_eq_true rfl) (show decode prog_18_method_155_code 5 = .ok (.invokestatic 1059, 3) from by decide +kernel) ⟨Nat.le_of_ble_eq_true rfl, Nat.le_of_ble_eq_true rfl⟩) ?_
    refine lv_pop hx hb (va := .int i) (by decide +kernel) rfl ?_
    exact W.vret hx hb B.returns (fun t ht _ => ⟨rfl, ht⟩) (fun _ h => absurd h List.not_mem_nil) (by decide +kernel) (hlocks := hlk)
  rcases hJ.2.2 with h | ⟨t, h⟩
  · exact key _ h rfl
  · exact key _ h rfl
def cbT (k : Nat) : Int32 := ([sp_text.map (fun n => Int32.ofNat n)].getD 0 []).getD k 0
set_option maxRecDepth 100000 in
theorem cb_ok : ∀ k, k < 232 → cbT k &&& 255 = cbT k ∧ ((cbT k).toUInt32 % 65536).toInt32 = cbT k ∧ narrow .char (.int (cbT k)) = .int (cbT k) ∧ cbT k = Int32.ofInt (sp_text.getD k 0 : Nat) := by decide +kernel
theorem cb_len : sp_text.length = 232 := by decide +kernel
theorem js_a (l : Launch) {w : WD} {zv k : Nat} (hk : k < 232) : Met l yA (wsN yA prog_19_method_2_code 2 (some .char)) (rmS 2) (fun a U => a = ([.ref zv, .int (Int32.ofNat k)] : List Value).toArray ∧ JS w zv U U.heap) (QcRead (cbT k)) 0 0 (fun _ => False) := by
  refine Met.ofW (cc := prog_19_method_2_code) (maxL := 2) (ret := some .char) (by decide) rfl ?_
  intro p e s m args below meth c s₁ B hml hP
  have hx := B.exec
  have hb := B.bytes
  have hlk := B.notSynchronized
  have hts : ∀ wd ∈ gws, wd.before args s = true := fun wd hwd => atoms_spec (ws := wsN yA prog_19_method_2_code 2 (some .char)) B.pre wd (List.mem_cons_of_mem _ hwd)
  have hown : s.vm.findClass "java/lang/StringLatin1" = some m.cls := findClass_of_methodNamed B.named
  obtain ⟨ha, hJ⟩ := hP
  obtain ⟨c1, c2, c3, -⟩ := cb_ok k hk
  have hT : va_T .byte zv 232 (fun j => .int (cbT j)) (fun q => w.2.2.1 ≤ q) s s.heap := (hJ.1.1 0 (by decide)).2.2.2
  have h0 : ¬ (Int32.ofNat k) < 0 := nI_pos (by omega)
  have h1 : Int32.ofNat k < Int32.ofNat 232 := nI_lt hk (by omega)
  conv => arg 16; rw [ha]
  rw [lg_entry_eq]
  refine lv_iload_n hx hb (k := 1) (i := 1) (x := Int32.ofNat k) (by decide +kernel) rfl rfl ?_
  refine lv_aload_n hx hb (k := 0) (i := 0) (x := zv) (by decide +kernel) rfl rfl ?_
  obtain ⟨cell, q1, q2, q3, q4, q5, q6, q7⟩ := id hT
  refine alen0 (n := Int32.ofNat 232) hx hb q1 q2 q5 (by decide +kernel) ?_
  refine callN0 (W.runS (Ts := gws) (own := "java/lang/StringLatin1") (n := 2) (As := [.int (Int32.ofNat k), .int (Int32.ofNat 232)]) (rest := []) ⟨hx, hb, hml, hown, hts⟩ (js_c l (w := w) (zv := zv) h0 h1) ⟨callB_of 2 hts (good_N nw_C) rfl rfl rfl (hts _ nw_iS) (hts _ nw_mC) ⟨by decide, by decide, by decide +kernel⟩ ⟨by decide, by decide⟩, hts _ nw_sC⟩ ⟨fun a U g mk h => ⟨h.1, h.2.moved (Vm.Alike.refl _)⟩, fun U hU hW => ⟨rfl, by rw [hU]; exact hJ.moved hW.alike⟩⟩ rfl rfl rfl rfl (Nat.le_of_ble_eq_true rfl) (show decode prog_19_method_2_code 3 = .ok (.invokestatic 9, 3) from by decide +kernel) ⟨Nat.le_of_ble_eq_true rfl, Nat.le_of_ble_eq_true rfl⟩) ?_
  refine lv_aload_n hx hb (k := 0) (i := 0) (x := zv) (by decide +kernel) rfl rfl ?_
  refine lv_iload_n hx hb (k := 1) (i := 1) (x := Int32.ofNat k) (by decide +kernel) rfl rfl ?_
  refine va_tb hx hb hT (sS s.heap) (vp_in_nI hk (by omega)) (v := .int (cbT k)) (by show Value.int (cbT (nI k).toNatClampNeg) = _; rw [nI_clamp (by omega)]) (by decide +kernel) ?_
  refine lv_sipush hx hb (n := 255) (v := 255) (by decide +kernel) (by decide) ?_
  refine lv_iand hx hb (by decide +kernel) ?_
  rw [c1]
  refine lv_i2c hx hb (by decide +kernel) c2 ?_
  exact W.zret hx hb B.returns c3 (fun t ht _ => ⟨rfl, ht⟩) (fun _ h => absurd h List.not_mem_nil) (by decide +kernel) (hlocks := hlk)
theorem js_l (l : Launch) {w : WD} {zv : Nat} : Met l yL (wsN yL prog_18_method_154_code 1 (some .boolean)) (rmS 0) (fun a U => a = ([.ref w.2.1] : List Value).toArray ∧ JS w zv U U.heap) (QcRead 1) 0 0 (fun _ => False) := by
  refine Met.ofW (cc := prog_18_method_154_code) (maxL := 1) (ret := some .boolean) (by decide) rfl ?_
  intro p e s m args below meth c s₁ B hml hP
  have hx := B.exec
  have hb := B.bytes
  have hlk := B.notSynchronized
  have hts : ∀ wd ∈ gws, wd.before args s = true := fun wd hwd => atoms_spec (ws := wsN yL prog_18_method_154_code 1 (some .boolean)) B.pre wd (List.mem_cons_of_mem _ hwd)
  have hown : s.vm.findClass "java/lang/String" = some m.cls := findClass_of_methodNamed B.named
  obtain ⟨ha, hJ⟩ := hP
  have hF := (hJ.1.1 0 (by decide)).2.1
  conv => arg 16; rw [ha]
  rw [lg_entry_eq]
  refine va_gets hx hb hJ.2.1 (sS s.heap) hown (hts _ nw_f38) (fun _ h => h) (by decide +kernel) ?_
  refine lv_if_eq hx hb (off := 14) (tgt := 17) (by decide +kernel) (by decide) (fun h => absurd h (by decide)) (fun _ => ?_)
  refine lv_aload_n hx hb (k := 0) (i := 0) (x := w.2.1) (by decide +kernel) rfl rfl ?_
  refine vk_getf hx hb hF (sS s.heap) hown (hts _ nw_f15) (fun _ h => h) (by decide +kernel) ?_
  refine lv_if_ne hx hb (off := 7) (tgt := 17) (by decide +kernel) (by decide) (fun h => absurd rfl h) (fun _ => ?_)
  refine lv_iconst hx hb (n := 1) (v := 1) (by decide +kernel) (by decide) ?_
  refine lv_goto hx hb (off := 4) (tgt := 18) (by decide +kernel) (by decide) ?_
  exact W.zret hx hb B.returns narrow_b1 (fun t ht _ => ⟨rfl, ht⟩) (fun _ h => absurd h List.not_mem_nil) (by decide +kernel) (hlocks := hlk)
theorem js_d (l : Launch) {w : WD} {zv : Nat} : Met l yD (wsN yD prog_18_method_152_code 1 (some .byte)) (rmS 0) (fun a U => a = ([.ref w.2.1] : List Value).toArray ∧ JS w zv U U.heap) (QcRead 0) 0 0 (fun _ => False) := by
  refine Met.ofW (cc := prog_18_method_152_code) (maxL := 1) (ret := some .byte) (by decide) rfl ?_
  intro p e s m args below meth c s₁ B hml hP
  have hx := B.exec
  have hb := B.bytes
  have hlk := B.notSynchronized
  have hts : ∀ wd ∈ gws, wd.before args s = true := fun wd hwd => atoms_spec (ws := wsN yD prog_18_method_152_code 1 (some .byte)) B.pre wd (List.mem_cons_of_mem _ hwd)
  have hown : s.vm.findClass "java/lang/String" = some m.cls := findClass_of_methodNamed B.named
  obtain ⟨ha, hJ⟩ := hP
  have hF := (hJ.1.1 0 (by decide)).2.1
  conv => arg 16; rw [ha]
  rw [lg_entry_eq]
  refine va_gets hx hb hJ.2.1 (sS s.heap) hown (hts _ nw_f38) (fun _ h => h) (by decide +kernel) ?_
  refine lv_if_eq hx hb (off := 10) (tgt := 13) (by decide +kernel) (by decide) (fun h => absurd h (by decide)) (fun _ => ?_)
  refine lv_aload_n hx hb (k := 0) (i := 0) (x := w.2.1) (by decide +kernel) rfl rfl ?_
  refine vk_getf hx hb hF (sS s.heap) hown (hts _ nw_f15) (fun _ h => h) (by decide +kernel) ?_
  refine lv_goto hx hb (off := 4) (tgt := 14) (by decide +kernel) (by decide) ?_
  exact W.zret hx hb B.returns rfl (fun t ht _ => ⟨rfl, ht⟩) (fun _ h => absurd h List.not_mem_nil) (by decide +kernel) (hlocks := hlk)
theorem js_n (l : Launch) {w : WD} {zv : Nat} : Met l yN (wsN yN prog_18_method_54_code 1 (some .int)) (rmS 1) (fun a U => a = ([.ref w.2.1] : List Value).toArray ∧ JS w zv U U.heap) (QcRead (Int32.ofNat 232)) 0 0 (fun _ => False) := by
  refine Met.ofW (cc := prog_18_method_54_code) (maxL := 1) (ret := some .int) (by decide) rfl ?_
  intro p e s m args below meth c s₁ B hml hP
  have hx := B.exec
  have hb := B.bytes
  have hlk := B.notSynchronized
  have hts : ∀ wd ∈ gws, wd.before args s = true := fun wd hwd => atoms_spec (ws := wsN yN prog_18_method_54_code 1 (some .int)) B.pre wd (List.mem_cons_of_mem _ hwd)
  have hown : s.vm.findClass "java/lang/String" = some m.cls := findClass_of_methodNamed B.named
  obtain ⟨ha, hJ⟩ := hP
  have hF := (hJ.1.1 0 (by decide)).2.2.1
  have hT : va_T .byte zv 232 (fun j => .int (cbT j)) (fun q => w.2.2.1 ≤ q) s s.heap := (hJ.1.1 0 (by decide)).2.2.2
  conv => arg 16; rw [ha]
  rw [lg_entry_eq]
  refine lv_aload_n hx hb (k := 0) (i := 0) (x := w.2.1) (by decide +kernel) rfl rfl ?_
  refine vk_getf hx hb hF (sS s.heap) hown (hts _ nw_f9) (fun _ h => h) (by decide +kernel) ?_
  obtain ⟨cell, q1, q2, q3, q4, q5, q6, q7⟩ := id hT
  refine alen0 (n := Int32.ofNat 232) hx hb q1 q2 q5 (by decide +kernel) ?_
  refine lv_aload_n hx hb (k := 0) (i := 0) (x := w.2.1) (by decide +kernel) rfl rfl ?_
  refine callR0 (W.runV (Ts := gws) (own := "java/lang/String") (C := "java/lang/String") (n := 0) (b := w.2.1) (As := []) (rest := [.int (Int32.ofNat 232)]) ⟨hx, hb, hml, hown, hts⟩ (js_d l (w := w) (zv := zv)) ⟨callB_of 0 hts (good_N nw_D) rfl rfl rfl (hts _ nw_iS) (hts _ nw_mD) ⟨by decide, by decide, by decide +kernel⟩ ⟨by decide, by decide⟩, hts _ nw_nD, hts _ nw_eD⟩ ⟨fun a U g mk h => ⟨h.1, h.2.moved (Vm.Alike.refl _)⟩, vk_recv hJ.1 (i := 0) (by decide) (sS s.heap), fun U hU hW => ⟨rfl, by rw [hU]; exact hJ.moved hW.alike⟩⟩ rfl rfl rfl rfl (Nat.le_of_ble_eq_true rfl) (show decode prog_18_method_54_code 6 = .ok (.invokevirtual 335, 3) from by decide +kernel) ⟨Nat.le_of_ble_eq_true rfl, Nat.le_of_ble_eq_true rfl⟩) ?_
  refine lv_ishr hx hb (by decide +kernel) ?_
  exact W.iret (v := Int32.ofNat 232) hx hb B.returns (fun t ht _ => ⟨rfl, ht⟩) (fun _ h => absurd h List.not_mem_nil) (by decide +kernel) (hlocks := hlk)
theorem js_h (l : Launch) {w : WD} {zv k : Nat} (hk : k < 232) : Met l yH (wsN yH prog_18_method_56_code 2 (some .char)) (rmS 3) (fun a U => a = ([.ref w.2.1, .int (Int32.ofNat k)] : List Value).toArray ∧ JS w zv U U.heap) (QcRead (cbT k)) 0 0 (fun _ => False) := by
  refine Met.ofW (cc := prog_18_method_56_code) (maxL := 2) (ret := some .char) (by decide) rfl ?_
  intro p e s m args below meth c s₁ B hml hP
  have hx := B.exec
  have hb := B.bytes
  have hlk := B.notSynchronized
  have hts : ∀ wd ∈ gws, wd.before args s = true := fun wd hwd => atoms_spec (ws := wsN yH prog_18_method_56_code 2 (some .char)) B.pre wd (List.mem_cons_of_mem _ hwd)
  have hown : s.vm.findClass "java/lang/String" = some m.cls := findClass_of_methodNamed B.named
  obtain ⟨ha, hJ⟩ := hP
  obtain ⟨c1, c2, c3, -⟩ := cb_ok k hk
  have hF := (hJ.1.1 0 (by decide)).2.2.1
  conv => arg 16; rw [ha]
  rw [lg_entry_eq]
  refine lv_aload_n hx hb (k := 0) (i := 0) (x := w.2.1) (by decide +kernel) rfl rfl ?_
  refine callR0 (W.runV (Ts := gws) (own := "java/lang/String") (C := "java/lang/String") (n := 0) (b := w.2.1) (As := []) (rest := []) ⟨hx, hb, hml, hown, hts⟩ (js_l l (w := w) (zv := zv)) ⟨callB_of 0 hts (good_N nw_L) rfl rfl rfl (hts _ nw_iS) (hts _ nw_mL) ⟨by decide, by decide, by decide +kernel⟩ ⟨by decide, by decide⟩, hts _ nw_nL, hts _ nw_eL⟩ ⟨fun a U g mk h => ⟨h.1, h.2.moved (Vm.Alike.refl _)⟩, vk_recv hJ.1 (i := 0) (by decide) (sS s.heap), fun U hU hW => ⟨rfl, by rw [hU]; exact hJ.moved hW.alike⟩⟩ rfl rfl rfl rfl (Nat.le_of_ble_eq_true rfl) (show decode prog_18_method_56_code 1 = .ok (.invokevirtual 492, 3) from by decide +kernel) ⟨Nat.le_of_ble_eq_true rfl, Nat.le_of_ble_eq_true rfl⟩) ?_
  refine lv_if_eq hx hb (off := 12) (tgt := 16) (by decide +kernel) (by decide) (fun h => absurd h (by decide)) (fun _ => ?_)
  refine lv_aload_n hx hb (k := 0) (i := 0) (x := w.2.1) (by decide +kernel) rfl rfl ?_
  refine vk_getf hx hb hF (sS s.heap) hown (hts _ nw_f9) (fun _ h => h) (by decide +kernel) ?_
  refine lv_iload_n hx hb (k := 1) (i := 1) (x := Int32.ofNat k) (by decide +kernel) rfl rfl ?_
  refine callR0 (W.runS (Ts := gws) (own := "java/lang/String") (n := 2) (As := [.ref zv, .int (Int32.ofNat k)]) (rest := []) ⟨hx, hb, hml, hown, hts⟩ (js_a l (w := w) (zv := zv) hk) ⟨callB_of 2 hts (good_N nw_A) rfl rfl rfl (hts _ nw_iL) (hts _ nw_mA) ⟨by decide, by decide, by decide +kernel⟩ ⟨by decide, by decide⟩, hts _ nw_sA⟩ ⟨fun a U g mk h => ⟨h.1, h.2.moved (Vm.Alike.refl _)⟩, fun U hU hW => ⟨rfl, by rw [hU]; exact hJ.moved hW.alike⟩⟩ rfl rfl rfl rfl (Nat.le_of_ble_eq_true rfl) (show decode prog_18_method_56_code 12 = .ok (.invokestatic 495, 3) from by decide +kernel) ⟨Nat.le_of_ble_eq_true rfl, Nat.le_of_ble_eq_true rfl⟩) ?_
  exact W.zret hx hb B.returns c3 (fun t ht _ => ⟨rfl, ht⟩) (fun _ h => absurd h List.not_mem_nil) (by decide +kernel) (hlocks := hlk)
end
