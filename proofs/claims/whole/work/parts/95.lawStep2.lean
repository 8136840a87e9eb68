/-! the law's step for the seven calls to come (GENERATED: wip/whole/genlaw4.py) -/
section
theorem lw_lightest {e : Nat} {σ : Sg} {T : TT} {tx : Int → TA} {B l : Int} {P : Int → AM → Prop} (q : Rl σ σ T tx B) (hB : B ≤ 900000) (l0 : 0 ≤ l) (l1 : l + 6 ≤ T.1) (lm : T.1 ≤ 1000000) (k : LK (e + 63) σ T tx B l P) : wpI (e + 63) 0 952 [aR 1, aR 2, aR 70, aI l] [] (mk σ T) P := by
  have w1 : w32 (l + 1) = l + 1 := w32_id (by omega) (by omega)
  have w2 : w32 (l + 2) = l + 2 := w32_id (by omega) (by omega)
  have w3 : w32 (l + 3) = l + 3 := w32_id (by omega) (by omega)
  apply g_Law_952
  rw [w1, w2, w3]
  refine ct ⟨by omega, by omega⟩ ?_
  refine ct ⟨by omega, by omega⟩ ?_
  by_cases b0 : σ 1 (l + 2) = 0
  · refine ct b0 ?_
    refine ct ⟨by omega, by omega⟩ ?_
    refine ol_go (opl_o o_lightest) q (fun r g' c z => ?_)
    apply g_Law_979
    rw [w1, w2, w3, c 1 (by omega)]
    refine ct ⟨by omega, by omega⟩ ?_
    refine ct ⟨by omega, by omega⟩ ?_
    refine ct b0 ?_
    refine ct ⟨by omega, by omega⟩ ?_
    refine z _ (fun h' c' q' => ?_)
    apply g_Law_1006
    exact ct rfl (k h' c' q')
  · refine cf b0 ?_
    refine ct ⟨by omega, by omega⟩ ?_
    refine ol_go (opl_o o_lightest) q (fun r g' c z => ?_)
    apply g_Law_979
    rw [w1, w2, w3, c 1 (by omega)]
    refine ct ⟨by omega, by omega⟩ ?_
    refine ct ⟨by omega, by omega⟩ ?_
    refine cf b0 ?_
    refine ct ⟨by omega, by omega⟩ ?_
    refine z _ (fun h' c' q' => ?_)
    apply g_Law_1006
    exact ct rfl (k h' c' q')
theorem lr_lightest : LwR 952 := fun σ T tx B l P q hB l0 l1 lm _ k => lw_lightest (e := 1227) q hB l0 l1 lm k
theorem lw_passing {e : Nat} {σ : Sg} {T : TT} {tx : Int → TA} {B l : Int} {P : Int → AM → Prop} (q : Rl σ σ T tx B) (hB : B ≤ 900000) (l0 : 0 ≤ l) (l1 : l + 6 ≤ T.1) (lm : T.1 ≤ 1000000) (k : LK (e + 63) σ T tx B l P) : wpI (e + 63) 0 1011 [aR 1, aR 2, aR 70, aI l] [] (mk σ T) P := by
  have w1 : w32 (l + 1) = l + 1 := w32_id (by omega) (by omega)
  have w2 : w32 (l + 2) = l + 2 := w32_id (by omega) (by omega)
  apply g_Law_1011
  rw [w1, w2]
  refine ct ⟨by omega, by omega⟩ ?_
  refine ct ⟨by omega, by omega⟩ ?_
  refine ol_go (opl_o o_passing) q (fun r g' c z => ?_)
  apply g_Law_1025
  rw [w1, w2]; rw [c 1 (by omega)]
  refine ct ⟨by omega, by omega⟩ ?_
  refine ct ⟨by omega, by omega⟩ ?_
  refine z _ (fun h' c' q' => ?_)
  apply g_Law_1039
  exact ct rfl (k h' c' q')
theorem lr_passing : LwR 1011 := fun σ T tx B l P q hB l0 l1 lm _ k => lw_passing (e := 1227) q hB l0 l1 lm k
theorem lw_orderless {e : Nat} {σ : Sg} {T : TT} {tx : Int → TA} {B l : Int} {P : Int → AM → Prop} (q : Rl σ σ T tx B) (hB : B ≤ 900000) (l0 : 0 ≤ l) (l1 : l + 6 ≤ T.1) (lm : T.1 ≤ 1000000) (k : LK (e + 63) σ T tx B l P) : wpI (e + 63) 0 1044 [aR 1, aR 2, aR 70, aI l] [] (mk σ T) P := by
  have w1 : w32 (l + 1) = l + 1 := w32_id (by omega) (by omega)
  apply g_Law_1044
  rw [w1]
  refine ct ⟨by omega, by omega⟩ ?_
  refine ol_go (opl_o o_orderless) q (fun r g' c z => ?_)
  apply g_Law_1053
  rw [w1]; rw [c 1 (by omega)]
  refine ct ⟨by omega, by omega⟩ ?_
  refine z _ (fun h' c' q' => ?_)
  apply g_Law_1062
  exact ct rfl (k h' c' q')
theorem lr_orderless : LwR 1044 := fun σ T tx B l P q hB l0 l1 lm _ k => lw_orderless (e := 1227) q hB l0 l1 lm k
theorem lw_sticking {e : Nat} {σ : Sg} {T : TT} {tx : Int → TA} {B l : Int} {P : Int → AM → Prop} (q : Rl σ σ T tx B) (hB : B ≤ 900000) (l0 : 0 ≤ l) (l1 : l + 6 ≤ T.1) (lm : T.1 ≤ 1000000) (k : LK (e + 63) σ T tx B l P) : wpI (e + 63) 0 1067 [aR 1, aR 2, aR 70, aI l] [] (mk σ T) P := by
  have w1 : w32 (l + 1) = l + 1 := w32_id (by omega) (by omega)
  apply g_Law_1067
  rw [w1]
  refine ct ⟨by omega, by omega⟩ ?_
  refine ol_go (opl_o o_sticking) q (fun r g' c z => ?_)
  apply g_Law_1076
  rw [w1]; rw [c 1 (by omega)]
  refine ct ⟨by omega, by omega⟩ ?_
  refine z _ (fun h' c' q' => ?_)
  apply g_Law_1085
  exact ct rfl (k h' c' q')
theorem lr_sticking : LwR 1067 := fun σ T tx B l P q hB l0 l1 lm _ k => lw_sticking (e := 1227) q hB l0 l1 lm k
theorem lw_lies {e : Nat} {σ : Sg} {T : TT} {tx : Int → TA} {B l : Int} {P : Int → AM → Prop} (q : Rl σ σ T tx B) (hB : B ≤ 900000) (l0 : 0 ≤ l) (l1 : l + 6 ≤ T.1) (lm : T.1 ≤ 1000000) (k : LK (e + 63) σ T tx B l P) : wpI (e + 63) 0 1113 [aR 1, aR 2, aR 70, aI l] [] (mk σ T) P := by
  have w1 : w32 (l + 1) = l + 1 := w32_id (by omega) (by omega)
  have w2 : w32 (l + 2) = l + 2 := w32_id (by omega) (by omega)
  apply g_Law_1113
  rw [w1, w2]
  refine ct ⟨by omega, by omega⟩ ?_
  refine ct ⟨by omega, by omega⟩ ?_
  refine ol_go (opl_o o_lies) q (fun r g' c z => ?_)
  apply g_Law_1127
  rw [w1, w2]; rw [c 1 (by omega)]
  refine ct ⟨by omega, by omega⟩ ?_
  refine ct ⟨by omega, by omega⟩ ?_
  refine z _ (fun h' c' q' => ?_)
  apply g_Law_1141
  exact ct rfl (k h' c' q')
theorem lr_lies : LwR 1113 := fun σ T tx B l P q hB l0 l1 lm _ k => lw_lies (e := 1227) q hB l0 l1 lm k
theorem lw_lending {e : Nat} {σ : Sg} {T : TT} {tx : Int → TA} {B l : Int} {P : Int → AM → Prop} (q : Rl σ σ T tx B) (hB : B ≤ 900000) (l0 : 0 ≤ l) (l1 : l + 6 ≤ T.1) (lm : T.1 ≤ 1000000) (k : LK (e + 63) σ T tx B l P) : wpI (e + 63) 0 1146 [aR 1, aR 2, aR 70, aI l] [] (mk σ T) P := by
  have w1 : w32 (l + 1) = l + 1 := w32_id (by omega) (by omega)
  have w2 : w32 (l + 2) = l + 2 := w32_id (by omega) (by omega)
  apply g_Law_1146
  rw [w1, w2]
  refine ct ⟨by omega, by omega⟩ ?_
  refine ct ⟨by omega, by omega⟩ ?_
  refine ol_go (opl_o o_lending) q (fun r g' c z => ?_)
  apply g_Law_1160
  rw [w1, w2]; rw [c 1 (by omega)]
  refine ct ⟨by omega, by omega⟩ ?_
  refine ct ⟨by omega, by omega⟩ ?_
  refine z _ (fun h' c' q' => ?_)
  apply g_Law_1174
  exact ct rfl (k h' c' q')
theorem lr_lending : LwR 1146 := fun σ T tx B l P q hB l0 l1 lm _ k => lw_lending (e := 1227) q hB l0 l1 lm k
theorem lw_whoCannot {e : Nat} {σ : Sg} {T : TT} {tx : Int → TA} {B l : Int} {P : Int → AM → Prop} (q : Rl σ σ T tx B) (hB : B ≤ 900000) (l0 : 0 ≤ l) (l1 : l + 6 ≤ T.1) (lm : T.1 ≤ 1000000) (k : LK (e + 63) σ T tx B l P) : wpI (e + 63) 0 1179 [aR 1, aR 2, aR 70, aI l] [] (mk σ T) P := by
  apply g_Law_1179
  refine ol_go (opl_o o_whoCannot) q (fun r g' c z => ?_)
  apply g_Law_1183
  refine z _ (fun h' c' q' => ?_)
  apply g_Law_1187
  exact ct rfl (k h' c' q')
theorem lr_whoCannot : LwR 1179 := fun σ T tx B l P q hB l0 l1 lm _ k => lw_whoCannot (e := 1227) q hB l0 l1 lm k
end
