/-! the law's step (GENERATED: wip/whole/genlaw2.py) -/
section
def LK (d : Nat) (σ : Sg) (T : TT) (tx : Int → TA) (B l : Int) (P : Int → AM → Prop) : Prop := ∀ σ' : Sg, (∀ a, a < 2 → σ' a = σ a) → Rl σ' σ' T tx (B + 600) → wpI d 0 1501 [aR 1, aR 2, aR 70, aI l] [] (mk σ' T) P
theorem ol_go {D cm : Nat} {ca : List AV} {rm : Nat} {ra : List AV} {σ : Sg} {T : TT} {tx : Int → TA} {B : Int} (o : OpL D cm ca rm ra σ T tx B) (q : Rl σ σ T tx B) {P : Int → AM → Prop} (k : ∀ (r : Int) (g' : Sg), (∀ a, a < 2 → g' a = σ a) → (∀ Q : Int → AM → Prop, (∀ h' : Sg, (∀ a, a < 2 → h' a = σ a) → Rl h' h' T tx (B + 600) → Q r (mk h' T)) → wpI D rm 0 ra [] (mk g' T) Q) → P r (mk g' T)) : wpI D cm 0 ca [] (mk σ T) P := by
  obtain ⟨r, g', q1, q2, q3⟩ := o ⟨σ, q⟩
  refine q1 _ (k r g' (fun a ha => q2 a (Or.inl ha)) ?_)
  intro Q hQ
  refine q3 g' (rl_c q (fun _ _ => rfl) (fun a _ _ => q2 a (by omega)) (fun i _ _ => by rw [q2 70 (by omega)])) Q ?_
  intro h' b1 b2
  refine hQ h' (fun a ha => by rw [b1 a (by omega), q2 a (by omega)]) (rl_c b2 ?_ (fun _ _ _ => rfl) (fun _ _ _ => rfl))
  intro a ha; rw [b1 a (by omega)]
theorem o6_go {D cm : Nat} {ca : List AV} {rm : Nat} {ra : List AV} {σ : Sg} {T : TT} {tx : Int → TA} {B : Int} (o : Op64 D cm ca rm ra σ T tx B) (q : Rl σ σ T tx B) {P : Int → AM → Prop} (k : ∀ (r : Int) (g' : Sg), (∀ a, a < 2 → g' a = σ a) → (∀ Q : Int → AM → Prop, (∀ h' : Sg, (∀ a, a < 2 → h' a = σ a) → Rl h' h' T tx (B + 600) → Q r (mk h' T)) → wpL D rm 0 ra [] (mk g' T) Q) → P r (mk g' T)) : wpL D cm 0 ca [] (mk σ T) P := by
  obtain ⟨r, g', q1, q2, q3⟩ := o ⟨σ, q⟩
  refine q1 _ (k r g' (fun a ha => q2 a (Or.inl ha)) ?_)
  intro Q hQ
  refine q3 g' (rl_c q (fun _ _ => rfl) (fun a _ _ => q2 a (by omega)) (fun i _ _ => by rw [q2 70 (by omega)])) Q ?_
  intro h' b1 b2
  refine hQ h' (fun a ha => by rw [b1 a (by omega), q2 a (by omega)]) (rl_c b2 ?_ (fun _ _ _ => rfl) (fun _ _ _ => rfl))
  intro a ha; rw [b1 a (by omega)]
theorem lw_heart {e : Nat} {σ : Sg} {T : TT} {tx : Int → TA} {B l : Int} {P : Int → AM → Prop} (q : Rl σ σ T tx B) (hB : B ≤ 900000) (l0 : 0 ≤ l) (l1 : l + 6 ≤ T.1) (lm : T.1 ≤ 1000000) (k : LK (e + 63) σ T tx B l P) : wpI (e + 63) 0 224 [aR 1, aR 2, aR 70, aI l] [] (mk σ T) P := by
  have w1 : w32 (l + 1) = l + 1 := w32_id (by omega) (by omega)
  apply g_Law_224
  rw [w1]
  refine ct ⟨by omega, by omega⟩ ?_
  refine ol_go (opl_o o_heart) q (fun r g' c z => ?_)
  apply g_Law_233
  rw [w1]; rw [c 1 (by omega)]
  refine ct ⟨by omega, by omega⟩ ?_
  refine z _ (fun h' c' q' => ?_)
  apply g_Law_242
  exact ct rfl (k h' c' q')
theorem lw_deed {e : Nat} {σ : Sg} {T : TT} {tx : Int → TA} {B l : Int} {P : Int → AM → Prop} (q : Rl σ σ T tx B) (hB : B ≤ 900000) (l0 : 0 ≤ l) (l1 : l + 6 ≤ T.1) (lm : T.1 ≤ 1000000) (k : LK (e + 63) σ T tx B l P) : wpI (e + 63) 0 247 [aR 1, aR 2, aR 70, aI l] [] (mk σ T) P := by
  have w1 : w32 (l + 1) = l + 1 := w32_id (by omega) (by omega)
  have w2 : w32 (l + 2) = l + 2 := w32_id (by omega) (by omega)
  have w3 : w32 (l + 3) = l + 3 := w32_id (by omega) (by omega)
  have w4 : w32 (l + 4) = l + 4 := w32_id (by omega) (by omega)
  have w5 : w32 (l + 5) = l + 5 := w32_id (by omega) (by omega)
  apply g_Law_247
  rw [w1, w2, w3, w4, w5]
  refine ct ⟨by omega, by omega⟩ ?_
  refine ct ⟨by omega, by omega⟩ ?_
  refine ct ⟨by omega, by omega⟩ ?_
  refine ct ⟨by omega, by omega⟩ ?_
  refine ct ⟨by omega, by omega⟩ ?_
  refine ol_go (opl_o o_deed) q (fun r g' c z => ?_)
  apply g_Law_276
  rw [w1, w2, w3, w4, w5]; rw [c 1 (by omega)]
  refine ct ⟨by omega, by omega⟩ ?_
  refine ct ⟨by omega, by omega⟩ ?_
  refine ct ⟨by omega, by omega⟩ ?_
  refine ct ⟨by omega, by omega⟩ ?_
  refine ct ⟨by omega, by omega⟩ ?_
  refine z _ (fun h' c' q' => ?_)
  apply g_Law_305
  exact ct rfl (k h' c' q')
theorem lw_witness {e : Nat} {σ : Sg} {T : TT} {tx : Int → TA} {B l : Int} {P : Int → AM → Prop} (q : Rl σ σ T tx B) (hB : B ≤ 900000) (l0 : 0 ≤ l) (l1 : l + 6 ≤ T.1) (lm : T.1 ≤ 1000000) (k : LK (e + 63) σ T tx B l P) : wpI (e + 63) 0 310 [aR 1, aR 2, aR 70, aI l] [] (mk σ T) P := by
  have w1 : w32 (l + 1) = l + 1 := w32_id (by omega) (by omega)
  have w2 : w32 (l + 2) = l + 2 := w32_id (by omega) (by omega)
  apply g_Law_310
  rw [w1, w2]
  refine ct ⟨by omega, by omega⟩ ?_
  refine ct ⟨by omega, by omega⟩ ?_
  refine ol_go (opl_o o_witness) q (fun r g' c z => ?_)
  apply g_Law_324
  rw [w1, w2]; rw [c 1 (by omega)]
  refine ct ⟨by omega, by omega⟩ ?_
  refine ct ⟨by omega, by omega⟩ ?_
  refine z _ (fun h' c' q' => ?_)
  apply g_Law_338
  exact ct rfl (k h' c' q')
theorem lw_judge {e : Nat} {σ : Sg} {T : TT} {tx : Int → TA} {B l : Int} {P : Int → AM → Prop} (q : Rl σ σ T tx B) (hB : B ≤ 900000) (l0 : 0 ≤ l) (l1 : l + 6 ≤ T.1) (lm : T.1 ≤ 1000000) (k : LK (e + 63) σ T tx B l P) : wpI (e + 63) 0 343 [aR 1, aR 2, aR 70, aI l] [] (mk σ T) P := by
  have w1 : w32 (l + 1) = l + 1 := w32_id (by omega) (by omega)
  apply g_Law_343
  rw [w1]
  refine ct ⟨by omega, by omega⟩ ?_
  refine ol_go (opl_o o_judge) q (fun r g' c z => ?_)
  apply g_Law_352
  rw [w1]; rw [c 1 (by omega)]
  refine ct ⟨by omega, by omega⟩ ?_
  refine z _ (fun h' c' q' => ?_)
  apply g_Law_361
  exact ct rfl (k h' c' q')
theorem lw_stick {e : Nat} {σ : Sg} {T : TT} {tx : Int → TA} {B l : Int} {P : Int → AM → Prop} (q : Rl σ σ T tx B) (hB : B ≤ 900000) (l0 : 0 ≤ l) (l1 : l + 6 ≤ T.1) (lm : T.1 ≤ 1000000) (k : LK (e + 63) σ T tx B l P) : wpI (e + 63) 0 366 [aR 1, aR 2, aR 70, aI l] [] (mk σ T) P := by
  have w1 : w32 (l + 1) = l + 1 := w32_id (by omega) (by omega)
  apply g_Law_366
  rw [w1]
  refine ct ⟨by omega, by omega⟩ ?_
  refine ol_go (opl_o o_stick) q (fun r g' c z => ?_)
  apply g_Law_375
  rw [w1]; rw [c 1 (by omega)]
  refine ct ⟨by omega, by omega⟩ ?_
  refine z _ (fun h' c' q' => ?_)
  apply g_Law_384
  exact ct rfl (k h' c' q')
theorem lw_bond {e : Nat} {σ : Sg} {T : TT} {tx : Int → TA} {B l : Int} {P : Int → AM → Prop} (q : Rl σ σ T tx B) (hB : B ≤ 900000) (l0 : 0 ≤ l) (l1 : l + 6 ≤ T.1) (lm : T.1 ≤ 1000000) (k : LK (e + 63) σ T tx B l P) : wpI (e + 63) 0 389 [aR 1, aR 2, aR 70, aI l] [] (mk σ T) P := by
  have w1 : w32 (l + 1) = l + 1 := w32_id (by omega) (by omega)
  have w2 : w32 (l + 2) = l + 2 := w32_id (by omega) (by omega)
  have w3 : w32 (l + 3) = l + 3 := w32_id (by omega) (by omega)
  apply g_Law_389
  rw [w1, w2, w3]
  refine ct ⟨by omega, by omega⟩ ?_
  refine ct ⟨by omega, by omega⟩ ?_
  refine ct ⟨by omega, by omega⟩ ?_
  refine ol_go (opl_o o_bond) q (fun r g' c z => ?_)
  apply g_Law_408
  rw [w1, w2, w3]; rw [c 1 (by omega)]
  refine ct ⟨by omega, by omega⟩ ?_
  refine ct ⟨by omega, by omega⟩ ?_
  refine ct ⟨by omega, by omega⟩ ?_
  refine z _ (fun h' c' q' => ?_)
  apply g_Law_427
  exact ct rfl (k h' c' q')
theorem lw_feed {e : Nat} {σ : Sg} {T : TT} {tx : Int → TA} {B l : Int} {P : Int → AM → Prop} (q : Rl σ σ T tx B) (hB : B ≤ 900000) (l0 : 0 ≤ l) (l1 : l + 6 ≤ T.1) (lm : T.1 ≤ 1000000) (k : LK (e + 63) σ T tx B l P) : wpI (e + 63) 0 432 [aR 1, aR 2, aR 70, aI l] [] (mk σ T) P := by
  have w1 : w32 (l + 1) = l + 1 := w32_id (by omega) (by omega)
  have w2 : w32 (l + 2) = l + 2 := w32_id (by omega) (by omega)
  have w3 : w32 (l + 3) = l + 3 := w32_id (by omega) (by omega)
  have w4 : w32 (l + 4) = l + 4 := w32_id (by omega) (by omega)
  have w5 : w32 (l + 5) = l + 5 := w32_id (by omega) (by omega)
  apply g_Law_432
  rw [w1, w2, w3, w4, w5]
  refine ct ⟨by omega, by omega⟩ ?_
  refine ct ⟨by omega, by omega⟩ ?_
  refine ct ⟨by omega, by omega⟩ ?_
  refine ct ⟨by omega, by omega⟩ ?_
  refine ct ⟨by omega, by omega⟩ ?_
  refine ol_go (opl_o o_feed) q (fun r g' c z => ?_)
  apply g_Law_461
  rw [w1, w2, w3, w4, w5]; rw [c 1 (by omega)]
  refine ct ⟨by omega, by omega⟩ ?_
  refine ct ⟨by omega, by omega⟩ ?_
  refine ct ⟨by omega, by omega⟩ ?_
  refine ct ⟨by omega, by omega⟩ ?_
  refine ct ⟨by omega, by omega⟩ ?_
  refine z _ (fun h' c' q' => ?_)
  apply g_Law_490
  exact ct rfl (k h' c' q')
theorem lw_end {e : Nat} {σ : Sg} {T : TT} {tx : Int → TA} {B l : Int} {P : Int → AM → Prop} (q : Rl σ σ T tx B) (hB : B ≤ 900000) (l0 : 0 ≤ l) (l1 : l + 6 ≤ T.1) (lm : T.1 ≤ 1000000) (k : LK (e + 63) σ T tx B l P) : wpI (e + 63) 0 495 [aR 1, aR 2, aR 70, aI l] [] (mk σ T) P := by
  have w1 : w32 (l + 1) = l + 1 := w32_id (by omega) (by omega)
  apply g_Law_495
  rw [w1]
  refine ct ⟨by omega, by omega⟩ ?_
  refine ol_go (opl_o o_end) q (fun r g' c z => ?_)
  apply g_Law_504
  rw [w1]; rw [c 1 (by omega)]
  refine ct ⟨by omega, by omega⟩ ?_
  refine z _ (fun h' c' q' => ?_)
  apply g_Law_513
  exact ct rfl (k h' c' q')
theorem lw_fault {e : Nat} {σ : Sg} {T : TT} {tx : Int → TA} {B l : Int} {P : Int → AM → Prop} (q : Rl σ σ T tx B) (hB : B ≤ 900000) (l0 : 0 ≤ l) (l1 : l + 6 ≤ T.1) (lm : T.1 ≤ 1000000) (k : LK (e + 63) σ T tx B l P) : wpI (e + 63) 0 531 [aR 1, aR 2, aR 70, aI l] [] (mk σ T) P := by
  have w1 : w32 (l + 1) = l + 1 := w32_id (by omega) (by omega)
  apply g_Law_531
  rw [w1]
  refine ct ⟨by omega, by omega⟩ ?_
  refine ol_go (opl_o o_fault) q (fun r g' c z => ?_)
  apply g_Law_540
  rw [w1]; rw [c 1 (by omega)]
  refine ct ⟨by omega, by omega⟩ ?_
  refine z _ (fun h' c' q' => ?_)
  apply g_Law_549
  exact ct rfl (k h' c' q')
theorem lw_by {e : Nat} {σ : Sg} {T : TT} {tx : Int → TA} {B l : Int} {P : Int → AM → Prop} (q : Rl σ σ T tx B) (hB : B ≤ 900000) (l0 : 0 ≤ l) (l1 : l + 6 ≤ T.1) (lm : T.1 ≤ 1000000) (k : LK (e + 63) σ T tx B l P) : wpI (e + 63) 0 554 [aR 1, aR 2, aR 70, aI l] [] (mk σ T) P := by
  have w1 : w32 (l + 1) = l + 1 := w32_id (by omega) (by omega)
  apply g_Law_554
  rw [w1]
  refine ct ⟨by omega, by omega⟩ ?_
  refine ol_go (opl_o o_by) q (fun r g' c z => ?_)
  apply g_Law_563
  rw [w1]; rw [c 1 (by omega)]
  refine ct ⟨by omega, by omega⟩ ?_
  refine z _ (fun h' c' q' => ?_)
  apply g_Law_572
  exact ct rfl (k h' c' q')
theorem lw_lend {e : Nat} {σ : Sg} {T : TT} {tx : Int → TA} {B l : Int} {P : Int → AM → Prop} (q : Rl σ σ T tx B) (hB : B ≤ 900000) (l0 : 0 ≤ l) (l1 : l + 6 ≤ T.1) (lm : T.1 ≤ 1000000) (k : LK (e + 63) σ T tx B l P) : wpI (e + 63) 0 577 [aR 1, aR 2, aR 70, aI l] [] (mk σ T) P := by
  have w1 : w32 (l + 1) = l + 1 := w32_id (by omega) (by omega)
  have w2 : w32 (l + 2) = l + 2 := w32_id (by omega) (by omega)
  have w3 : w32 (l + 3) = l + 3 := w32_id (by omega) (by omega)
  apply g_Law_577
  rw [w1, w2, w3]
  refine ct ⟨by omega, by omega⟩ ?_
  refine ct ⟨by omega, by omega⟩ ?_
  refine ct ⟨by omega, by omega⟩ ?_
  refine ol_go (opl_o o_lend) q (fun r g' c z => ?_)
  apply g_Law_596
  rw [w1, w2, w3]; rw [c 1 (by omega)]
  refine ct ⟨by omega, by omega⟩ ?_
  refine ct ⟨by omega, by omega⟩ ?_
  refine ct ⟨by omega, by omega⟩ ?_
  refine z _ (fun h' c' q' => ?_)
  apply g_Law_615
  exact ct rfl (k h' c' q')
theorem lw_weigh {e : Nat} {σ : Sg} {T : TT} {tx : Int → TA} {B l : Int} {P : Int → AM → Prop} (q : Rl σ σ T tx B) (hB : B ≤ 900000) (l0 : 0 ≤ l) (l1 : l + 6 ≤ T.1) (lm : T.1 ≤ 1000000) (k : LK (e + 63) σ T tx B l P) : wpI (e + 63) 0 620 [aR 1, aR 2, aR 70, aI l] [] (mk σ T) P := by
  have w1 : w32 (l + 1) = l + 1 := w32_id (by omega) (by omega)
  apply g_Law_620
  rw [w1]
  refine ct ⟨by omega, by omega⟩ ?_
  refine ol_go (opl_o o_weigh) q (fun r g' c z => ?_)
  apply g_Law_629
  rw [w1]; rw [c 1 (by omega)]
  refine ct ⟨by omega, by omega⟩ ?_
  refine z _ (fun h' c' q' => ?_)
  apply g_Law_638
  exact ct rfl (k h' c' q')
theorem lw_lay {e : Nat} {σ : Sg} {T : TT} {tx : Int → TA} {B l : Int} {P : Int → AM → Prop} (q : Rl σ σ T tx B) (hB : B ≤ 900000) (l0 : 0 ≤ l) (l1 : l + 6 ≤ T.1) (lm : T.1 ≤ 1000000) (k : LK (e + 63) σ T tx B l P) : wpI (e + 63) 0 643 [aR 1, aR 2, aR 70, aI l] [] (mk σ T) P := by
  have w1 : w32 (l + 1) = l + 1 := w32_id (by omega) (by omega)
  apply g_Law_643
  rw [w1]
  refine ct ⟨by omega, by omega⟩ ?_
  refine ol_go (opl_o o_lay) q (fun r g' c z => ?_)
  apply g_Law_652
  rw [w1]; rw [c 1 (by omega)]
  refine ct ⟨by omega, by omega⟩ ?_
  refine z _ (fun h' c' q' => ?_)
  apply g_Law_661
  exact ct rfl (k h' c' q')
theorem lw_answer {e : Nat} {σ : Sg} {T : TT} {tx : Int → TA} {B l : Int} {P : Int → AM → Prop} (q : Rl σ σ T tx B) (hB : B ≤ 900000) (l0 : 0 ≤ l) (l1 : l + 6 ≤ T.1) (lm : T.1 ≤ 1000000) (k : LK (e + 63) σ T tx B l P) : wpI (e + 63) 0 666 [aR 1, aR 2, aR 70, aI l] [] (mk σ T) P := by
  have w1 : w32 (l + 1) = l + 1 := w32_id (by omega) (by omega)
  have w2 : w32 (l + 2) = l + 2 := w32_id (by omega) (by omega)
  apply g_Law_666
  rw [w1, w2]
  refine ct ⟨by omega, by omega⟩ ?_
  refine ct ⟨by omega, by omega⟩ ?_
  by_cases b0 : σ 1 (l + 2) = 0
  · refine ct b0 ?_
    refine ol_go (opl_o (o_answer (Or.inl rfl))) q (fun r g' c z => ?_)
    apply g_Law_688
    rw [w1, w2]; rw [c 1 (by omega)]
    refine ct ⟨by omega, by omega⟩ ?_
    refine ct ⟨by omega, by omega⟩ ?_
    refine ct b0 ?_
    refine z _ (fun h' c' q' => ?_)
    apply g_Law_710
    exact ct rfl (k h' c' q')
  · refine cf b0 ?_
    refine ol_go (opl_o (o_answer (Or.inr rfl))) q (fun r g' c z => ?_)
    apply g_Law_688
    rw [w1, w2]; rw [c 1 (by omega)]
    refine ct ⟨by omega, by omega⟩ ?_
    refine ct ⟨by omega, by omega⟩ ?_
    refine cf b0 ?_
    refine z _ (fun h' c' q' => ?_)
    apply g_Law_710
    exact ct rfl (k h' c' q')
theorem lw_judged {e : Nat} {σ : Sg} {T : TT} {tx : Int → TA} {B l : Int} {P : Int → AM → Prop} (q : Rl σ σ T tx B) (hB : B ≤ 900000) (l0 : 0 ≤ l) (l1 : l + 6 ≤ T.1) (lm : T.1 ≤ 1000000) (k : LK (e + 63) σ T tx B l P) : wpI (e + 63) 0 715 [aR 1, aR 2, aR 70, aI l] [] (mk σ T) P := by
  apply g_Law_715
  refine ol_go (opl_o (o_judged (by omega))) q (fun r g' c z => ?_)
  apply g_Law_719
  refine z _ (fun h' c' q' => ?_)
  apply g_Law_723
  exact ct rfl (k h' c' q')
theorem lw_played {e : Nat} {σ : Sg} {T : TT} {tx : Int → TA} {B l : Int} {P : Int → AM → Prop} (q : Rl σ σ T tx B) (hB : B ≤ 900000) (l0 : 0 ≤ l) (l1 : l + 6 ≤ T.1) (lm : T.1 ≤ 1000000) (k : LK (e + 63) σ T tx B l P) : wpI (e + 63) 0 728 [aR 1, aR 2, aR 70, aI l] [] (mk σ T) P := by
  have w1 : w32 (l + 1) = l + 1 := w32_id (by omega) (by omega)
  apply g_Law_728
  rw [w1]
  refine ct ⟨by omega, by omega⟩ ?_
  refine ol_go (o_played (by omega)) q (fun r g' c z => ?_)
  apply g_Law_737
  rw [w1]; rw [c 1 (by omega)]
  refine ct ⟨by omega, by omega⟩ ?_
  refine z _ (fun h' c' q' => ?_)
  apply g_Law_746
  exact ct rfl (k h' c' q')
theorem lw_day {e : Nat} {σ : Sg} {T : TT} {tx : Int → TA} {B l : Int} {P : Int → AM → Prop} (q : Rl σ σ T tx B) (hB : B ≤ 900000) (l0 : 0 ≤ l) (l1 : l + 6 ≤ T.1) (lm : T.1 ≤ 1000000) (k : LK (e + 63) σ T tx B l P) : wpI (e + 63) 0 751 [aR 1, aR 2, aR 70, aI l] [] (mk σ T) P := by
  have w1 : w32 (l + 1) = l + 1 := w32_id (by omega) (by omega)
  have w2 : w32 (l + 2) = l + 2 := w32_id (by omega) (by omega)
  apply g_Law_751
  rw [w1, w2]
  refine ct ⟨by omega, by omega⟩ ?_
  refine ct ⟨by omega, by omega⟩ ?_
  refine ol_go (opl_o (o_day (by omega))) q (fun r g' c z => ?_)
  apply g_Law_765
  rw [w1, w2]; rw [c 1 (by omega)]
  refine ct ⟨by omega, by omega⟩ ?_
  refine ct ⟨by omega, by omega⟩ ?_
  refine z _ (fun h' c' q' => ?_)
  apply g_Law_779
  exact ct rfl (k h' c' q')
theorem lw_undo {e : Nat} {σ : Sg} {T : TT} {tx : Int → TA} {B l : Int} {P : Int → AM → Prop} (q : Rl σ σ T tx B) (hB : B ≤ 900000) (l0 : 0 ≤ l) (l1 : l + 6 ≤ T.1) (lm : T.1 ≤ 1000000) (k : LK (e + 63) σ T tx B l P) : wpI (e + 63) 0 784 [aR 1, aR 2, aR 70, aI l] [] (mk σ T) P := by
  apply g_Law_784
  refine ol_go (opl_o o_undo) q (fun r g' c z => ?_)
  apply g_Law_788
  refine z _ (fun h' c' q' => ?_)
  apply g_Law_792
  exact ct rfl (k h' c' q')
theorem lw_scale {e : Nat} {σ : Sg} {T : TT} {tx : Int → TA} {B l : Int} {P : Int → AM → Prop} (q : Rl σ σ T tx B) (hB : B ≤ 900000) (l0 : 0 ≤ l) (l1 : l + 6 ≤ T.1) (lm : T.1 ≤ 1000000) (k : LK (e + 63) σ T tx B l P) : wpI (e + 63) 0 797 [aR 1, aR 2, aR 70, aI l] [] (mk σ T) P := by
  have w1 : w32 (l + 1) = l + 1 := w32_id (by omega) (by omega)
  apply g_Law_797
  rw [w1]
  refine ct ⟨by omega, by omega⟩ ?_
  refine ol_go (opl_o o_scale) q (fun r g' c z => ?_)
  apply g_Law_806
  rw [w1]; rw [c 1 (by omega)]
  refine ct ⟨by omega, by omega⟩ ?_
  refine z _ (fun h' c' q' => ?_)
  apply g_Law_815
  exact ct rfl (k h' c' q')
theorem lw_ofHeart {e : Nat} {σ : Sg} {T : TT} {tx : Int → TA} {B l : Int} {P : Int → AM → Prop} (q : Rl σ σ T tx B) (hB : B ≤ 900000) (l0 : 0 ≤ l) (l1 : l + 6 ≤ T.1) (lm : T.1 ≤ 1000000) (rs : ∀ i, r32 (σ 1 i)) (k : LK (e + 63) σ T tx B l P) : wpI (e + 63) 0 820 [aR 1, aR 2, aR 70, aI l] [] (mk σ T) P := by
  have w1 : w32 (l + 1) = l + 1 := w32_id (by omega) (by omega)
  have w2 : w32 (l + 2) = l + 2 := w32_id (by omega) (by omega)
  apply g_Law_820
  rw [w1, w2]
  refine ct ⟨by omega, by omega⟩ ?_
  refine ct ⟨by omega, by omega⟩ ?_
  refine ol_go (opl_o (o_ofHeart (rs _))) q (fun r g' c z => ?_)
  apply g_Law_834
  rw [w1, w2]; rw [c 1 (by omega)]
  refine ct ⟨by omega, by omega⟩ ?_
  refine ct ⟨by omega, by omega⟩ ?_
  refine z _ (fun h' c' q' => ?_)
  apply g_Law_848
  exact ct rfl (k h' c' q')
theorem lw_ofDeed {e : Nat} {σ : Sg} {T : TT} {tx : Int → TA} {B l : Int} {P : Int → AM → Prop} (q : Rl σ σ T tx B) (hB : B ≤ 900000) (l0 : 0 ≤ l) (l1 : l + 6 ≤ T.1) (lm : T.1 ≤ 1000000) (k : LK (e + 63) σ T tx B l P) : wpI (e + 63) 0 853 [aR 1, aR 2, aR 70, aI l] [] (mk σ T) P := by
  have w1 : w32 (l + 1) = l + 1 := w32_id (by omega) (by omega)
  have w2 : w32 (l + 2) = l + 2 := w32_id (by omega) (by omega)
  apply g_Law_853
  rw [w1, w2]
  refine ct ⟨by omega, by omega⟩ ?_
  refine ct ⟨by omega, by omega⟩ ?_
  refine ol_go (opl_o o_ofDeed) q (fun r g' c z => ?_)
  apply g_Law_867
  rw [w1, w2]; rw [c 1 (by omega)]
  refine ct ⟨by omega, by omega⟩ ?_
  refine ct ⟨by omega, by omega⟩ ?_
  refine z _ (fun h' c' q' => ?_)
  apply g_Law_881
  exact ct rfl (k h' c' q')
theorem lw_isSo {e : Nat} {σ : Sg} {T : TT} {tx : Int → TA} {B l : Int} {P : Int → AM → Prop} (q : Rl σ σ T tx B) (hB : B ≤ 900000) (l0 : 0 ≤ l) (l1 : l + 6 ≤ T.1) (lm : T.1 ≤ 1000000) (k : LK (e + 63) σ T tx B l P) : wpI (e + 63) 0 886 [aR 1, aR 2, aR 70, aI l] [] (mk σ T) P := by
  have w1 : w32 (l + 1) = l + 1 := w32_id (by omega) (by omega)
  have w2 : w32 (l + 2) = l + 2 := w32_id (by omega) (by omega)
  apply g_Law_886
  rw [w1, w2]
  refine ct ⟨by omega, by omega⟩ ?_
  refine ct ⟨by omega, by omega⟩ ?_
  refine ol_go (opl_o o_isSo) q (fun r g' c z => ?_)
  apply g_Law_900
  rw [w1, w2]; rw [c 1 (by omega)]
  refine ct ⟨by omega, by omega⟩ ?_
  refine ct ⟨by omega, by omega⟩ ?_
  refine z _ (fun h' c' q' => ?_)
  apply g_Law_914
  exact ct rfl (k h' c' q')
theorem lw_book {e : Nat} {σ : Sg} {T : TT} {tx : Int → TA} {B l : Int} {P : Int → AM → Prop} (q : Rl σ σ T tx B) (hB : B ≤ 900000) (l0 : 0 ≤ l) (l1 : l + 6 ≤ T.1) (lm : T.1 ≤ 1000000) (k : LK (e + 63) σ T tx B l P) : wpI (e + 63) 0 919 [aR 1, aR 2, aR 70, aI l] [] (mk σ T) P := by
  have w1 : w32 (l + 1) = l + 1 := w32_id (by omega) (by omega)
  have w2 : w32 (l + 2) = l + 2 := w32_id (by omega) (by omega)
  apply g_Law_919
  rw [w1, w2]
  refine ct ⟨by omega, by omega⟩ ?_
  refine ct ⟨by omega, by omega⟩ ?_
  refine ol_go (opl_o (o_book (by omega))) q (fun r g' c z => ?_)
  apply g_Law_933
  rw [w1, w2]; rw [c 1 (by omega)]
  refine ct ⟨by omega, by omega⟩ ?_
  refine ct ⟨by omega, by omega⟩ ?_
  refine z _ (fun h' c' q' => ?_)
  apply g_Law_947
  exact ct rfl (k h' c' q')
theorem lw_truly {e : Nat} {σ : Sg} {T : TT} {tx : Int → TA} {B l : Int} {P : Int → AM → Prop} (q : Rl σ σ T tx B) (hB : B ≤ 900000) (l0 : 0 ≤ l) (l1 : l + 6 ≤ T.1) (lm : T.1 ≤ 1000000) (k : LK (e + 63) σ T tx B l P) : wpI (e + 63) 0 1090 [aR 1, aR 2, aR 70, aI l] [] (mk σ T) P := by
  have w1 : w32 (l + 1) = l + 1 := w32_id (by omega) (by omega)
  apply g_Law_1090
  rw [w1]
  refine ct ⟨by omega, by omega⟩ ?_
  refine ol_go (opl_o o_truly) q (fun r g' c z => ?_)
  apply g_Law_1099
  rw [w1]; rw [c 1 (by omega)]
  refine ct ⟨by omega, by omega⟩ ?_
  refine z _ (fun h' c' q' => ?_)
  apply g_Law_1108
  exact ct rfl (k h' c' q')
theorem lw_kindness {e : Nat} {σ : Sg} {T : TT} {tx : Int → TA} {B l : Int} {P : Int → AM → Prop} (q : Rl σ σ T tx B) (hB : B ≤ 900000) (l0 : 0 ≤ l) (l1 : l + 6 ≤ T.1) (lm : T.1 ≤ 1000000) (k : LK (e + 63) σ T tx B l P) : wpI (e + 63) 0 1192 [aR 1, aR 2, aR 70, aI l] [] (mk σ T) P := by
  have w1 : w32 (l + 1) = l + 1 := w32_id (by omega) (by omega)
  apply g_Law_1192
  rw [w1]
  refine ct ⟨by omega, by omega⟩ ?_
  refine ol_go (opl_o o_kindness) q (fun r g' c z => ?_)
  apply g_Law_1201
  rw [w1]; rw [c 1 (by omega)]
  refine ct ⟨by omega, by omega⟩ ?_
  refine z _ (fun h' c' q' => ?_)
  apply g_Law_1210
  exact ct rfl (k h' c' q')
theorem lw_known {e : Nat} {σ : Sg} {T : TT} {tx : Int → TA} {B l : Int} {P : Int → AM → Prop} (q : Rl σ σ T tx B) (hB : B ≤ 900000) (l0 : 0 ≤ l) (l1 : l + 6 ≤ T.1) (lm : T.1 ≤ 1000000) (k : LK (e + 63) σ T tx B l P) : wpI (e + 63) 0 1215 [aR 1, aR 2, aR 70, aI l] [] (mk σ T) P := by
  have w1 : w32 (l + 1) = l + 1 := w32_id (by omega) (by omega)
  have w2 : w32 (l + 2) = l + 2 := w32_id (by omega) (by omega)
  apply g_Law_1215
  rw [w1, w2]
  refine ct ⟨by omega, by omega⟩ ?_
  refine ct ⟨by omega, by omega⟩ ?_
  refine ol_go (opl_o o_known) q (fun r g' c z => ?_)
  apply g_Law_1229
  rw [w1, w2]; rw [c 1 (by omega)]
  refine ct ⟨by omega, by omega⟩ ?_
  refine ct ⟨by omega, by omega⟩ ?_
  refine z _ (fun h' c' q' => ?_)
  apply g_Law_1243
  exact ct rfl (k h' c' q')
theorem lw_fit {e : Nat} {σ : Sg} {T : TT} {tx : Int → TA} {B l : Int} {P : Int → AM → Prop} (q : Rl σ σ T tx B) (hB : B ≤ 900000) (l0 : 0 ≤ l) (l1 : l + 6 ≤ T.1) (lm : T.1 ≤ 1000000) (k : LK (e + 63) σ T tx B l P) : wpI (e + 63) 0 1248 [aR 1, aR 2, aR 70, aI l] [] (mk σ T) P := by
  apply g_Law_1248
  refine ol_go (opl_o o_fit) q (fun r g' c z => ?_)
  apply g_Law_1252
  refine z _ (fun h' c' q' => ?_)
  apply g_Law_1256
  exact ct rfl (k h' c' q')
theorem lw_smallest {e : Nat} {σ : Sg} {T : TT} {tx : Int → TA} {B l : Int} {P : Int → AM → Prop} (q : Rl σ σ T tx B) (hB : B ≤ 900000) (l0 : 0 ≤ l) (l1 : l + 6 ≤ T.1) (lm : T.1 ≤ 1000000) (k : LK (e + 63) σ T tx B l P) : wpI (e + 63) 0 1261 [aR 1, aR 2, aR 70, aI l] [] (mk σ T) P := by
  have w1 : w32 (l + 1) = l + 1 := w32_id (by omega) (by omega)
  apply g_Law_1261
  rw [w1]
  refine ct ⟨by omega, by omega⟩ ?_
  refine ol_go (opl_o o_smallest) q (fun r g' c z => ?_)
  apply g_Law_1270
  rw [w1]; rw [c 1 (by omega)]
  refine ct ⟨by omega, by omega⟩ ?_
  refine z _ (fun h' c' q' => ?_)
  apply g_Law_1279
  exact ct rfl (k h' c' q')
theorem lw_tells {e : Nat} {σ : Sg} {T : TT} {tx : Int → TA} {B l : Int} {P : Int → AM → Prop} (q : Rl σ σ T tx B) (hB : B ≤ 900000) (l0 : 0 ≤ l) (l1 : l + 6 ≤ T.1) (lm : T.1 ≤ 1000000) (k : LK (e + 63) σ T tx B l P) : wpI (e + 63) 0 1284 [aR 1, aR 2, aR 70, aI l] [] (mk σ T) P := by
  apply g_Law_1284
  refine ol_go (opl_o o_tells) q (fun r g' c z => ?_)
  apply g_Law_1288
  refine z _ (fun h' c' q' => ?_)
  apply g_Law_1292
  exact ct rfl (k h' c' q')
theorem lw_should {e : Nat} {σ : Sg} {T : TT} {tx : Int → TA} {B l : Int} {P : Int → AM → Prop} (q : Rl σ σ T tx B) (hB : B ≤ 900000) (l0 : 0 ≤ l) (l1 : l + 6 ≤ T.1) (lm : T.1 ≤ 1000000) (k : LK (e + 63) σ T tx B l P) : wpI (e + 63) 0 1297 [aR 1, aR 2, aR 70, aI l] [] (mk σ T) P := by
  have w1 : w32 (l + 1) = l + 1 := w32_id (by omega) (by omega)
  apply g_Law_1297
  rw [w1]
  refine ct ⟨by omega, by omega⟩ ?_
  refine ol_go (opl_o o_should) q (fun r g' c z => ?_)
  apply g_Law_1306
  rw [w1]; rw [c 1 (by omega)]
  refine ct ⟨by omega, by omega⟩ ?_
  refine z _ (fun h' c' q' => ?_)
  apply g_Law_1315
  exact ct rfl (k h' c' q')
theorem lw_featherForAll {e : Nat} {σ : Sg} {T : TT} {tx : Int → TA} {B l : Int} {P : Int → AM → Prop} (q : Rl σ σ T tx B) (hB : B ≤ 900000) (l0 : 0 ≤ l) (l1 : l + 6 ≤ T.1) (lm : T.1 ≤ 1000000) (k : LK (e + 63) σ T tx B l P) : wpI (e + 63) 0 1320 [aR 1, aR 2, aR 70, aI l] [] (mk σ T) P := by
  have w1 : w32 (l + 1) = l + 1 := w32_id (by omega) (by omega)
  apply g_Law_1320
  rw [w1]
  refine ct ⟨by omega, by omega⟩ ?_
  by_cases b0 : σ 1 (l + 1) = 0
  · refine ct b0 ?_
    refine ol_go (opl_o o_featherForAll) q (fun r g' c z => ?_)
    apply g_Law_1337
    rw [w1]; rw [c 1 (by omega)]
    refine ct ⟨by omega, by omega⟩ ?_
    refine ct b0 ?_
    refine z _ (fun h' c' q' => ?_)
    apply g_Law_1354
    exact ct rfl (k h' c' q')
  · refine cf b0 ?_
    refine ol_go (opl_o o_featherForAll) q (fun r g' c z => ?_)
    apply g_Law_1337
    rw [w1]; rw [c 1 (by omega)]
    refine ct ⟨by omega, by omega⟩ ?_
    refine cf b0 ?_
    refine z _ (fun h' c' q' => ?_)
    apply g_Law_1354
    exact ct rfl (k h' c' q')
theorem lw_odds {e : Nat} {σ : Sg} {T : TT} {tx : Int → TA} {B l : Int} {P : Int → AM → Prop} (q : Rl σ σ T tx B) (hB : B ≤ 900000) (l0 : 0 ≤ l) (l1 : l + 6 ≤ T.1) (lm : T.1 ≤ 1000000) (k : LK (e + 63) σ T tx B l P) : wpI (e + 63) 0 1359 [aR 1, aR 2, aR 70, aI l] [] (mk σ T) P := by
  have w1 : w32 (l + 1) = l + 1 := w32_id (by omega) (by omega)
  have w2 : w32 (l + 2) = l + 2 := w32_id (by omega) (by omega)
  have w3 : w32 (l + 3) = l + 3 := w32_id (by omega) (by omega)
  apply g_Law_1359
  rw [w1, w2, w3]
  refine ct ⟨by omega, by omega⟩ ?_
  refine ct ⟨by omega, by omega⟩ ?_
  refine ct ⟨by omega, by omega⟩ ?_
  by_cases b0 : σ 1 (l + 3) = 0
  · refine ct b0 ?_
    refine o6_go o_odds q (fun r g' c z => ?_)
    apply g_Law_1386
    rw [w1, w2, w3]; rw [c 1 (by omega)]
    refine ct ⟨by omega, by omega⟩ ?_
    refine ct ⟨by omega, by omega⟩ ?_
    refine ct ⟨by omega, by omega⟩ ?_
    refine ct b0 ?_
    refine z _ (fun h' c' q' => ?_)
    apply g_Law_1413
    exact ct (by unfold cmpL; simp) (k h' c' q')
  · refine cf b0 ?_
    refine o6_go o_odds q (fun r g' c z => ?_)
    apply g_Law_1386
    rw [w1, w2, w3]; rw [c 1 (by omega)]
    refine ct ⟨by omega, by omega⟩ ?_
    refine ct ⟨by omega, by omega⟩ ?_
    refine ct ⟨by omega, by omega⟩ ?_
    refine cf b0 ?_
    refine z _ (fun h' c' q' => ?_)
    apply g_Law_1413
    exact ct (by unfold cmpL; simp) (k h' c' q')
theorem lw_often {e : Nat} {σ : Sg} {T : TT} {tx : Int → TA} {B l : Int} {P : Int → AM → Prop} (q : Rl σ σ T tx B) (hB : B ≤ 900000) (l0 : 0 ≤ l) (l1 : l + 6 ≤ T.1) (lm : T.1 ≤ 1000000) (k : LK (e + 63) σ T tx B l P) : wpI (e + 63) 0 1419 [aR 1, aR 2, aR 70, aI l] [] (mk σ T) P := by
  have w1 : w32 (l + 1) = l + 1 := w32_id (by omega) (by omega)
  have w2 : w32 (l + 2) = l + 2 := w32_id (by omega) (by omega)
  apply g_Law_1419
  rw [w1, w2]
  refine ct ⟨by omega, by omega⟩ ?_
  refine ct ⟨by omega, by omega⟩ ?_
  refine ol_go (opl_o o_often) q (fun r g' c z => ?_)
  apply g_Law_1433
  rw [w1, w2]; rw [c 1 (by omega)]
  refine ct ⟨by omega, by omega⟩ ?_
  refine ct ⟨by omega, by omega⟩ ?_
  refine z _ (fun h' c' q' => ?_)
  apply g_Law_1447
  exact ct rfl (k h' c' q')
theorem lw_image {e : Nat} {σ : Sg} {T : TT} {tx : Int → TA} {B l : Int} {P : Int → AM → Prop} (q : Rl σ σ T tx B) (hB : B ≤ 900000) (l0 : 0 ≤ l) (l1 : l + 6 ≤ T.1) (lm : T.1 ≤ 1000000) (k : LK (e + 63) σ T tx B l P) : wpI (e + 63) 0 1452 [aR 1, aR 2, aR 70, aI l] [] (mk σ T) P := by
  apply g_Law_1452
  refine ol_go (opl_o o_image) q (fun r g' c z => ?_)
  apply g_Law_1456
  refine z _ (fun h' c' q' => ?_)
  apply g_Law_1460
  exact ct rfl (k h' c' q')
theorem lw_back {e : Nat} {σ : Sg} {T : TT} {tx : Int → TA} {B l : Int} {P : Int → AM → Prop} (q : Rl σ σ T tx B) (hB : B ≤ 900000) (l0 : 0 ≤ l) (l1 : l + 6 ≤ T.1) (lm : T.1 ≤ 1000000) (k : LK (e + 63) σ T tx B l P) : wpI (e + 63) 0 1465 [aR 1, aR 2, aR 70, aI l] [] (mk σ T) P := by
  apply g_Law_1465
  refine ol_go (opl_o o_back) q (fun r g' c z => ?_)
  apply g_Law_1469
  refine z _ (fun h' c' q' => ?_)
  apply g_Law_1473
  exact ct rfl (k h' c' q')
theorem lw_about {e : Nat} {σ : Sg} {T : TT} {tx : Int → TA} {B l : Int} {P : Int → AM → Prop} (q : Rl σ σ T tx B) (hB : B ≤ 900000) (l0 : 0 ≤ l) (l1 : l + 6 ≤ T.1) (lm : T.1 ≤ 1000000) (k : LK (e + 63) σ T tx B l P) : wpI (e + 63) 0 1478 [aR 1, aR 2, aR 70, aI l] [] (mk σ T) P := by
  have w1 : w32 (l + 1) = l + 1 := w32_id (by omega) (by omega)
  apply g_Law_1478
  rw [w1]
  refine ct ⟨by omega, by omega⟩ ?_
  refine ol_go (opl_o o_about) q (fun r g' c z => ?_)
  apply g_Law_1487
  rw [w1]; rw [c 1 (by omega)]
  refine ct ⟨by omega, by omega⟩ ?_
  refine z _ (fun h' c' q' => ?_)
  apply g_Law_1496
  exact ct rfl (k h' c' q')
end
