-- Af_heart (I)I
set_option maxRecDepth 100000 in
theorem g_Af_heart_0 {d : Nat} {σ : Int → Int → Int} {T : TT} {P : Int → AM → Prop} {l1 : Int} (h : (brK (decide (l1 < 0)) (P (-1) (mk σ T)) (brK (decide (999 < l1)) (P (-1) (mk σ T)) (brK (decide ((σ 3 0) < 6)) (brK (decide ((0 : Int) ≤ (σ 3 0) ∧ ((σ 3 0) : Int) < 6)) (P (w32 ((w32 ((σ 3 0) + 1)) - 1)) (mk (up (up σ 4 (σ 3 0) l1) 3 0 (w32 ((σ 3 0) + 1))) T)) False) (P (-1) (mk σ T)))))) : wpI (d + 1) 2 0 [aR 2, aI l1] [] (mk σ T) P := wpn_s 2000 [] [3] h
-- Af_deed (IIIII)I
set_option maxRecDepth 100000 in
theorem g_Af_deed_0 {d : Nat} {σ : Int → Int → Int} {T : TT} {P : Int → AM → Prop} {l1 : Int} {l2 : Int} {l3 : Int} {l4 : Int} {l5 : Int} (h : (brK (decide (l1 < 0)) (P (-1) (mk σ T)) (brK (decide (l1 < (σ 3 0))) (brK (decide (l2 < 0)) (P (-1) (mk σ T)) (brK (decide (9 < l2)) (P (-1) (mk σ T)) (brK (decide (l3 < 0)) (P (-1) (mk σ T)) (brK (decide (99 < l3)) (P (-1) (mk σ T)) (brK (decide (l4 < 0)) (P (-1) (mk σ T)) (brK (decide (7 < l4)) (P (-1) (mk σ T)) (brK (decide (l5 = (-1))) (wpI (d + 1) 57 0 [aR 3, aI l1, aI l2, aI l3, aI l4, aI l5] [] (mk σ T) (fun r M' => (wpI (d + 2) 4 76 [aR 2, aI l1, aI l2, aI l3, aI l4, aI l5] [aI r] M' P))) (brK (decide (l1 < 0)) (P (-1) (mk σ T)) (brK (decide (l1 < (σ 3 0))) (brK (decide (l5 < 0)) (P (-1) (mk σ T)) (brK (decide (l5 < (σ 3 0))) (brK (decide (l1 = l5)) (P (-1) (mk σ T)) (wpI (d + 1) 57 0 [aR 3, aI l1, aI l2, aI l3, aI l4, aI l5] [] (mk σ T) (fun r M' => (wpI (d + 2) 4 76 [aR 2, aI l1, aI l2, aI l3, aI l4, aI l5] [aI r] M' P)))) (P (-1) (mk σ T)))) (P (-1) (mk σ T))))))))))) (P (-1) (mk σ T))))) : wpI (d + 2) 4 0 [aR 2, aI l1, aI l2, aI l3, aI l4, aI l5] [] (mk σ T) P := wpn_s 2000 [] [3, 55, 56] h
set_option maxRecDepth 100000 in
theorem g_Af_deed_76 {d : Nat} {σ : Int → Int → Int} {T : TT} {P : Int → AM → Prop} {l1 : Int} {l2 : Int} {l3 : Int} {l4 : Int} {l5 : Int} {s0 : Int} (h : (P s0 (mk σ T))) : wpI d 4 76 [aR 2, aI l1, aI l2, aI l3, aI l4, aI l5] [aI s0] (mk σ T) P := wpn_s 2000 [] [] h
-- Af_witness (II)Z
set_option maxRecDepth 100000 in
theorem g_Af_witness_0 {d : Nat} {σ : Int → Int → Int} {T : TT} {P : Int → AM → Prop} {l1 : Int} {l2 : Int} (h : (brK (decide (l1 < 0)) (P 0 (mk σ T)) (brK (decide (l1 < (σ 3 2))) (brK (decide (l2 < 0)) (P 0 (mk σ T)) (brK (decide ((sR l2 (σ 3 0)) = 0)) (brK (decide ((0 : Int) ≤ l1 ∧ (l1 : Int) < 24)) (P 1 (mk (up σ 10 l1 l2) T)) False) (P 0 (mk σ T)))) (P 0 (mk σ T))))) : wpI (d + 1) 5 0 [aR 2, aI l1, aI l2] [] (mk σ T) P := wpn_s 2000 [] [6, 58] h
-- Af_judge (I)I
set_option maxRecDepth 100000 in
theorem g_Af_judge_0 {d : Nat} {σ : Int → Int → Int} {T : TT} {P : Int → AM → Prop} {l1 : Int} (h : (brK (decide (l1 < 1)) (P (-1) (mk σ T)) (brK (decide (1023 < l1)) (P (-1) (mk σ T)) (brK (decide ((σ 3 9) < 8)) (brK (decide ((0 : Int) ≤ (σ 3 9) ∧ ((σ 3 9) : Int) < 8)) (P (w32 ((w32 ((σ 3 9) + 1)) - 1)) (mk (up (up σ 11 (σ 3 9) l1) 3 9 (w32 ((σ 3 9) + 1))) T)) False) (P (-1) (mk σ T)))))) : wpI d 7 0 [aR 2, aI l1] [] (mk σ T) P := wpn_s 2000 [] [] h
-- Af_stick (I)Z
set_option maxRecDepth 100000 in
theorem g_Af_stick_0 {d : Nat} {σ : Int → Int → Int} {T : TT} {P : Int → AM → Prop} {l1 : Int} (h : (brK (decide (l1 < 0)) (P 0 (mk σ T)) (brK (decide (99 < l1)) (P 0 (mk σ T)) (P 1 (mk (up σ 3 11 l1) T))))) : wpI (d + 1) 8 0 [aR 2, aI l1] [] (mk σ T) P := wpn_s 2000 [] [3] h
-- Af_bond (III)Z
set_option maxRecDepth 100000 in
theorem g_Af_bond_0 {d : Nat} {σ : Int → Int → Int} {T : TT} {P : Int → AM → Prop} {l1 : Int} {l2 : Int} {l3 : Int} (h : (brK (decide (l1 < 0)) (P 0 (mk σ T)) (brK (decide (l1 < (σ 3 0))) (brK (decide (l2 < 0)) (P 0 (mk σ T)) (brK (decide (l2 < (σ 3 0))) (brK (decide (l1 = l2)) (P 0 (mk σ T)) (brK (decide (l3 < 0)) (P 0 (mk σ T)) (brK (decide (99 < l3)) (P 0 (mk σ T)) (brK (decide ((0 : Int) ≤ (w32 ((w32 (l1 * 6)) + l2)) ∧ ((w32 ((w32 (l1 * 6)) + l2)) : Int) < 36)) (P 1 (mk (up σ 12 (w32 ((w32 (l1 * 6)) + l2)) l3) T)) False)))) (P 0 (mk σ T)))) (P 0 (mk σ T))))) : wpI (d + 2) 9 0 [aR 2, aI l1, aI l2, aI l3] [] (mk σ T) P := wpn_s 2000 [] [3, 55, 56] h
-- Af_feed (IIIII)I
set_option maxRecDepth 100000 in
theorem g_Af_feed_0 {d : Nat} {σ : Int → Int → Int} {T : TT} {P : Int → AM → Prop} {l1 : Int} {l2 : Int} {l3 : Int} {l4 : Int} {l5 : Int} (h : (brK (decide (300 < (w32 ((σ 2 13) + 20)))) (P (-1) (mk σ T)) (wpV d 11 0 [aR 2, aI l1, aU] [] (mk σ T) (fun M' => (wpI (d + 1) 10 20 [aR 2, aI l1, aI l2, aI l3, aI l4, aI l5] [] M' P))))) : wpI (d + 1) 10 0 [aR 2, aI l1, aI l2, aI l3, aI l4, aI l5] [] (mk σ T) P := wpn_s 2000 [] [] h
set_option maxRecDepth 100000 in
theorem g_Af_feed_20 {d : Nat} {σ : Int → Int → Int} {T : TT} {P : Int → AM → Prop} {l1 : Int} {l2 : Int} {l3 : Int} {l4 : Int} {l5 : Int} (h : (wpV d 11 0 [aR 2, aI l2, aU] [] (mk σ T) (fun M' => (wpI (d + 1) 10 25 [aR 2, aI l1, aI l2, aI l3, aI l4, aI l5] [] M' P)))) : wpI (d + 1) 10 20 [aR 2, aI l1, aI l2, aI l3, aI l4, aI l5] [] (mk σ T) P := wpn_s 2000 [] [] h
set_option maxRecDepth 100000 in
theorem g_Af_feed_25 {d : Nat} {σ : Int → Int → Int} {T : TT} {P : Int → AM → Prop} {l1 : Int} {l2 : Int} {l3 : Int} {l4 : Int} {l5 : Int} (h : (wpV d 11 0 [aR 2, aI l3, aU] [] (mk σ T) (fun M' => (wpI (d + 1) 10 30 [aR 2, aI l1, aI l2, aI l3, aI l4, aI l5] [] M' P)))) : wpI (d + 1) 10 25 [aR 2, aI l1, aI l2, aI l3, aI l4, aI l5] [] (mk σ T) P := wpn_s 2000 [] [] h
set_option maxRecDepth 100000 in
theorem g_Af_feed_30 {d : Nat} {σ : Int → Int → Int} {T : TT} {P : Int → AM → Prop} {l1 : Int} {l2 : Int} {l3 : Int} {l4 : Int} {l5 : Int} (h : (wpV d 11 0 [aR 2, aI l4, aU] [] (mk σ T) (fun M' => (wpI (d + 1) 10 36 [aR 2, aI l1, aI l2, aI l3, aI l4, aI l5] [] M' P)))) : wpI (d + 1) 10 30 [aR 2, aI l1, aI l2, aI l3, aI l4, aI l5] [] (mk σ T) P := wpn_s 2000 [] [] h
set_option maxRecDepth 100000 in
theorem g_Af_feed_36 {d : Nat} {σ : Int → Int → Int} {T : TT} {P : Int → AM → Prop} {l1 : Int} {l2 : Int} {l3 : Int} {l4 : Int} {l5 : Int} (h : (wpV d 11 0 [aR 2, aI l5, aU] [] (mk σ T) (fun M' => (wpI (d + 1) 10 42 [aR 2, aI l1, aI l2, aI l3, aI l4, aI l5] [] M' P)))) : wpI (d + 1) 10 36 [aR 2, aI l1, aI l2, aI l3, aI l4, aI l5] [] (mk σ T) P := wpn_s 2000 [] [] h
set_option maxRecDepth 100000 in
theorem g_Af_feed_42 {d : Nat} {σ : Int → Int → Int} {T : TT} {P : Int → AM → Prop} {l1 : Int} {l2 : Int} {l3 : Int} {l4 : Int} {l5 : Int} (h : (P (σ 2 13) (mk σ T))) : wpI d 10 42 [aR 2, aI l1, aI l2, aI l3, aI l4, aI l5] [] (mk σ T) P := wpn_s 2000 [] [] h
-- Af_feedFour (I)V
set_option maxRecDepth 100000 in
theorem g_Af_feedFour_0 {d : Nat} {σ : Int → Int → Int} {T : TT} {P : AM → Prop} {l1 : Int} (h : (wpV d 11 3 [aR 2, aI l1, aI 24] [] (mk σ T) P)) : wpV d 11 0 [aR 2, aI l1, aU] [] (mk σ T) P := wpn_s 2000 [(11, 3)] [] h
set_option maxRecDepth 100000 in
theorem g_Af_feedFour_3 {d : Nat} {σ : Int → Int → Int} {T : TT} {P : AM → Prop} {l1 : Int} {l2 : Int} (h : (brK (decide (l2 < 0)) (P (mk σ T)) (brK (decide ((σ 2 13) < 300)) (brK (decide ((0 : Int) ≤ (σ 2 13) ∧ ((σ 2 13) : Int) < 300)) (wpV d 11 3 [aR 2, aI l1, aI (w32 (l2 + (-8)))] [] (mk (up (up σ 59 (σ 2 13) (w8 (w8 (sR l1 l2)))) 2 13 (w32 ((σ 2 13) + 1))) T) P) False) (P (mk σ T))))) : wpV d 11 3 [aR 2, aI l1, aI l2] [] (mk σ T) P := wpn_s 2000 [(11, 3)] [] h
-- Af_end (I)I
set_option maxRecDepth 100000 in
theorem g_Af_end_0 {d : Nat} {σ : Int → Int → Int} {T : TT} {P : Int → AM → Prop} {l1 : Int} (h : (brK (decide (l1 < 0)) (P (-1) (mk σ T)) (brK (decide ((σ 2 13) < l1)) (P (-1) (mk σ T)) (P l1 (mk (up σ 2 13 l1) T))))) : wpI (d + 1) 12 0 [aR 2, aI l1] [] (mk σ T) P := wpn_s 2000 [] [3] h
-- Af_text ()I
set_option maxRecDepth 100000 in
theorem g_Af_text_0 {d : Nat} {σ : Int → Int → Int} {T : TT} {P : Int → AM → Prop} (h : (brK (decide ((σ 3 13) < 4)) (wpR d 143 0 [aR 60, aI (σ 2 13), aU, aU] [] (mk σ T) (fun r M' => (wpI (d + 1) 13 24 [aR 2, aU] [aR r] M' P))) (P (-1) (mk σ T)))) : wpI (d + 1) 13 0 [aR 2, aU] [] (mk σ T) P := wpn_s 2000 [] [] h
set_option maxRecDepth 100000 in
theorem g_Af_text_24 {d : Nat} {σ : Int → Int → Int} {T : TT} {P : Int → AM → Prop} {s0 : Int} (h : (brK (decide (s0 = 0)) (P (-1) (mk (up (up (up σ 2 13 0) 2 14 (σ 60 1)) 2 15 (σ 60 2)) T)) (brK (decide ((kd (SHt T) s0) = 7 ∧ 0 ≤ (σ 3 13) ∧ (σ 3 13) < 4)) (P (w32 ((w32 ((σ 3 13) + 1)) - 1)) (mk (up (up (up (up (up σ 2 13 0) 2 14 (σ 60 1)) 2 15 (σ 60 2)) 13 (σ 3 13) s0) 3 13 (w32 ((σ 3 13) + 1))) T)) (brK (decide (s0 = 0 ∧ 0 ≤ (σ 3 13) ∧ (σ 3 13) < 4)) (P (w32 ((w32 ((σ 3 13) + 1)) - 1)) (mk (up (up (up (up (up σ 2 13 0) 2 14 (σ 60 1)) 2 15 (σ 60 2)) 13 (σ 3 13) s0) 3 13 (w32 ((σ 3 13) + 1))) T)) False)))) : wpI d 13 24 [aR 2, aU] [aR s0] (mk σ T) P := wpn_s 2000 [] [] h
-- Af_fault (I)I
set_option maxRecDepth 100000 in
theorem g_Af_fault_0 {d : Nat} {σ : Int → Int → Int} {T : TT} {P : Int → AM → Prop} {l1 : Int} (h : (brK (decide (l1 = 0)) (P (σ 2 14) (mk σ T)) (brK (decide (l1 = 1)) (P (σ 2 15) (mk σ T)) (P (-1) (mk σ T))))) : wpI d 14 0 [aR 2, aI l1] [] (mk σ T) P := wpn_s 2000 [] [] h
-- Af_by (I)Z
set_option maxRecDepth 100000 in
theorem g_Af_by_0 {d : Nat} {σ : Int → Int → Int} {T : TT} {P : Int → AM → Prop} {l1 : Int} (h : (brK (decide (l1 = (-1))) (P 1 (mk (up σ 3 15 l1) T)) (brK (decide (l1 < 0)) (P 0 (mk σ T)) (brK (decide (l1 < (σ 3 13))) (brK (decide ((0 : Int) ≤ l1 ∧ (l1 : Int) < 4)) (brK (decide ((σ 13 l1) = 0)) (P 0 (mk σ T)) (P 1 (mk (up σ 3 15 l1) T))) False) (P 0 (mk σ T)))))) : wpI (d + 1) 15 0 [aR 2, aI l1] [] (mk σ T) P := wpn_s 2000 [] [59] h
-- Af_lend (III)Z
set_option maxRecDepth 100000 in
theorem g_Af_lend_0 {d : Nat} {σ : Int → Int → Int} {T : TT} {P : Int → AM → Prop} {l1 : Int} {l2 : Int} {l3 : Int} (h : (brK (decide (l1 < 0)) (P 0 (mk σ T)) (brK (decide (l1 < (σ 3 0))) (brK (decide (l2 < 0)) (P 0 (mk σ T)) (brK (decide (l2 < (σ 3 0))) (brK (decide (l1 = l2)) (P 0 (mk σ T)) (brK (decide (l3 < 0)) (P 0 (mk σ T)) (brK (decide (99 < l3)) (P 0 (mk σ T)) (brK (decide ((0 : Int) ≤ (w32 ((w32 (l1 * 6)) + l2)) ∧ ((w32 ((w32 (l1 * 6)) + l2)) : Int) < 36)) (brK (decide ((σ 17 (w32 ((w32 (l1 * 6)) + l2))) = l3)) (P 0 (mk σ T)) (wpV (d + 1) 74 0 [aR 19, aR 16] [] (mk σ T) (fun M' => (wpI (d + 2) 16 58 [aR 2, aI l1, aI l2, aI l3, aI (w32 ((w32 (l1 * 6)) + l2))] [] M' P)))) False)))) (P 0 (mk σ T)))) (P 0 (mk σ T))))) : wpI (d + 2) 16 0 [aR 2, aI l1, aI l2, aI l3, aU] [] (mk σ T) P := wpn_s 2000 [] [3, 55, 56] h
set_option maxRecDepth 100000 in
theorem g_Af_lend_58 {d : Nat} {σ : Int → Int → Int} {T : TT} {P : Int → AM → Prop} {l1 : Int} {l2 : Int} {l3 : Int} {l4 : Int} (h : (brK (decide ((0 : Int) ≤ l4 ∧ (l4 : Int) < 36)) (P 1 (mk (up σ 17 l4 l3) T)) False)) : wpI d 16 58 [aR 2, aI l1, aI l2, aI l3, aI l4] [] (mk σ T) P := wpn_s 2000 [] [] h
-- Af_weigh (I)I
set_option maxRecDepth 100000 in
theorem g_Af_weigh_0 {d : Nat} {σ : Int → Int → Int} {T : TT} {P : Int → AM → Prop} {l1 : Int} (h : (brK (decide (l1 < 0)) (P (-100000) (mk σ T)) (brK (decide (l1 < (σ 3 0))) (wpV d 74 0 [aR 19, aR 16] [] (mk σ T) (fun M' => (wpI (d + 1) 17 25 [aR 2, aI l1] [] M' P))) (P (-100000) (mk σ T))))) : wpI (d + 1) 17 0 [aR 2, aI l1] [] (mk σ T) P := wpn_s 2000 [] [55] h
set_option maxRecDepth 100000 in
theorem g_Af_weigh_25 {d : Nat} {σ : Int → Int → Int} {T : TT} {P : Int → AM → Prop} {l1 : Int} (h : (wpV d 93 0 [aR 42, aI l1] [] (mk σ T) (fun M' => (wpI (d + 1) 17 33 [aR 2, aI l1] [] M' P)))) : wpI (d + 1) 17 25 [aR 2, aI l1] [] (mk σ T) P := wpn_s 2000 [] [] h
set_option maxRecDepth 100000 in
theorem g_Af_weigh_33 {d : Nat} {σ : Int → Int → Int} {T : TT} {P : Int → AM → Prop} {l1 : Int} (h : (P (σ 16 2) (mk σ T))) : wpI d 17 33 [aR 2, aI l1] [] (mk σ T) P := wpn_s 2000 [] [] h
-- Af_lay (I)I
set_option maxRecDepth 100000 in
theorem g_Af_lay_0 {d : Nat} {σ : Int → Int → Int} {T : TT} {P : Int → AM → Prop} {l1 : Int} (h : (wpI d 95 0 [aR 42, aI l1] [] (mk σ T) (fun r M' => (wpI (d + 1) 18 8 [aR 2, aI l1] [aI r] M' P)))) : wpI (d + 1) 18 0 [aR 2, aI l1] [] (mk σ T) P := wpn_s 2000 [] [] h
set_option maxRecDepth 100000 in
theorem g_Af_lay_8 {d : Nat} {σ : Int → Int → Int} {T : TT} {P : Int → AM → Prop} {l1 : Int} {s0 : Int} (h : (brK (decide (s0 = 0)) (P (-100000) (mk σ T)) (wpV d 74 0 [aR 19, aR 16] [] (mk σ T) (fun M' => (wpI (d + 1) 18 25 [aR 2, aI l1] [] M' P))))) : wpI (d + 1) 18 8 [aR 2, aI l1] [aI s0] (mk σ T) P := wpn_s 2000 [] [] h
set_option maxRecDepth 100000 in
theorem g_Af_lay_25 {d : Nat} {σ : Int → Int → Int} {T : TT} {P : Int → AM → Prop} {l1 : Int} (h : (wpV d 96 0 [aR 42, aI l1] [] (mk σ T) (fun M' => (wpI (d + 1) 18 33 [aR 2, aI l1] [] M' P)))) : wpI (d + 1) 18 25 [aR 2, aI l1] [] (mk σ T) P := wpn_s 2000 [] [] h
set_option maxRecDepth 100000 in
theorem g_Af_lay_33 {d : Nat} {σ : Int → Int → Int} {T : TT} {P : Int → AM → Prop} {l1 : Int} (h : (P (σ 16 2) (mk σ T))) : wpI d 18 33 [aR 2, aI l1] [] (mk σ T) P := wpn_s 2000 [] [] h
-- Af_answer (IZ)I
set_option maxRecDepth 100000 in
theorem g_Af_answer_0 {d : Nat} {σ : Int → Int → Int} {T : TT} {P : Int → AM → Prop} {l1 : Int} {l2 : Int} (h : (brK (decide ((σ 16 0) = (-1))) (P (-1) (mk σ T)) (brK (decide (l1 < 0)) (P (-1) (mk σ T)) (brK (decide (l1 < (σ 3 9))) (brK (decide ((bA (sR (σ 16 5) l1) 1) = 0)) (wpV (d + 1) 74 0 [aR 19, aR 16] [] (mk σ T) (fun M' => (wpI (d + 2) 19 24 [aR 2, aI l1, aI l2] [] M' P))) (P (-1) (mk σ T))) (P (-1) (mk σ T)))))) : wpI (d + 2) 19 0 [aR 2, aI l1, aI l2] [] (mk σ T) P := wpn_s 2000 [] [61, 97] h
set_option maxRecDepth 100000 in
theorem g_Af_answer_24 {d : Nat} {σ : Int → Int → Int} {T : TT} {P : Int → AM → Prop} {l1 : Int} {l2 : Int} (h : (wpI d 85 0 [aR 39, aI (σ 16 0), aU, aU, aU] [] (mk σ T) (fun r M' => (wpI (d + 1) 19 44 [aR 2, aI l1, aI l2] [aI r, aI l2, aI l1, aR 42] M' P)))) : wpI (d + 1) 19 24 [aR 2, aI l1, aI l2] [] (mk σ T) P := wpn_s 2000 [] [] h
set_option maxRecDepth 100000 in
theorem g_Af_answer_44 {d : Nat} {σ : Int → Int → Int} {T : TT} {P : Int → AM → Prop} {l1 : Int} {l2 : Int} {s1 : Int} {s2 : Int} {s3 : Int} (h : (wpI d 98 0 [aR 42, aI s1, aI s2, aI s3] [] (mk σ T) (fun r M' => (wpI (d + 1) 19 47 [aR 2, aI l1, aI l2] [aI r] M' P)))) : wpI (d + 1) 19 44 [aR 2, aI l1, aI l2] [aI s3, aI s2, aI s1, aR 42] (mk σ T) P := wpn_s 2000 [] [] h
set_option maxRecDepth 100000 in
theorem g_Af_answer_47 {d : Nat} {σ : Int → Int → Int} {T : TT} {P : Int → AM → Prop} {l1 : Int} {l2 : Int} {s0 : Int} (h : (brK (decide (s0 = 0)) (P 0 (mk σ T)) (P 1 (mk σ T)))) : wpI d 19 47 [aR 2, aI l1, aI l2] [aI s0] (mk σ T) P := wpn_s 2000 [] [] h
-- Af_judged ()I
set_option maxRecDepth 100000 in
theorem g_Af_judged_0 {d : Nat} {σ : Int → Int → Int} {T : TT} {P : Int → AM → Prop} (h : (brK (decide ((σ 16 0) = (-1))) (P (-1) (mk σ T)) (wpV d 74 0 [aR 19, aR 16] [] (mk σ T) (fun M' => (wpI (d + 1) 20 24 [aR 2] [] M' P))))) : wpI (d + 1) 20 0 [aR 2] [] (mk σ T) P := wpn_s 2000 [] [] h
set_option maxRecDepth 100000 in
theorem g_Af_judged_24 {d : Nat} {σ : Int → Int → Int} {T : TT} {P : Int → AM → Prop} (h : (wpI d 100 0 [aR 42, aU] [] (mk σ T) (fun r M' => (wpI (d + 1) 20 31 [aR 2] [aI r] M' P)))) : wpI (d + 1) 20 24 [aR 2] [] (mk σ T) P := wpn_s 2000 [] [] h
set_option maxRecDepth 100000 in
theorem g_Af_judged_31 {d : Nat} {σ : Int → Int → Int} {T : TT} {P : Int → AM → Prop} {s0 : Int} (h : (P s0 (mk σ T))) : wpI d 20 31 [aR 2] [aI s0] (mk σ T) P := wpn_s 2000 [] [] h
-- Af_played (I)I
set_option maxRecDepth 100000 in
theorem g_Af_played_0 {d : Nat} {σ : Int → Int → Int} {T : TT} {P : Int → AM → Prop} {l1 : Int} (h : (brK (decide (l1 < 0)) (P (-2) (mk σ T)) (brK (decide (l1 < (σ 3 13))) (brK (decide ((0 : Int) ≤ l1 ∧ (l1 : Int) < 4)) (brK (decide ((σ 13 l1) = 0)) (P (-2) (mk σ T)) (wpI (d + 1) 21 18 [aR 2, aI l1, aR (σ 13 l1), aI 0] [] (mk σ T) P)) False) (P (-2) (mk σ T))))) : wpI (d + 1) 21 0 [aR 2, aI l1, aU, aU] [] (mk σ T) P := wpn_s 2000 [(21, 18)] [59] h
set_option maxRecDepth 100000 in
theorem g_Af_played_18 {d : Nat} {σ : Int → Int → Int} {T : TT} {P : Int → AM → Prop} {l1 : Int} {l2 : Int} {l3 : Int} (h : (brK (Nat.beq (kd (SHt T) l2) 7) (brK (decide (l3 < (σ l2 3))) (wpI d 22 0 [aR 2, aR l2, aI l3, aU, aU, aU] [] (mk σ T) (fun r M' => (wpI (d + 1) 21 32 [aR 2, aI l1, aR l2, aI l3] [aI r] M' P))) (P (-1) (mk σ T))) False)) : wpI (d + 1) 21 18 [aR 2, aI l1, aR l2, aI l3] [] (mk σ T) P := wpn_s 2000 [(21, 18)] [] h
set_option maxRecDepth 100000 in
theorem g_Af_played_32 {d : Nat} {σ : Int → Int → Int} {T : TT} {P : Int → AM → Prop} {l1 : Int} {l2 : Int} {l3 : Int} {s0 : Int} (h : (brK (decide (s0 = 0)) (P l3 (mk σ T)) (wpI d 21 18 [aR 2, aI l1, aR l2, aI (w32 (l3 + 1))] [] (mk σ T) P))) : wpI d 21 32 [aR 2, aI l1, aR l2, aI l3] [aI s0] (mk σ T) P := wpn_s 2000 [(21, 18)] [] h
-- Af_isDone (LAgainstFeather$Text;I)Z
set_option maxRecDepth 100000 in
theorem g_Af_isDone_0 {d : Nat} {σ : Int → Int → Int} {T : TT} {P : Int → AM → Prop} {l1 : Int} {l2 : Int} (h : (brK (Nat.beq ((kd (SHt T) l1) + 1) 8) (wpI d 123 0 [aR l1, aI l2, aI 1, aU] [] (mk σ T) (fun r M' => (wpI (d + 1) 22 6 [aR 2, aR l1, aI l2, aU, aU, aU] [aI r] M' P))) False)) : wpI (d + 1) 22 0 [aR 2, aR l1, aI l2, aU, aU, aU] [] (mk σ T) P := wpn_s 2000 [] [] h
set_option maxRecDepth 100000 in
theorem g_Af_isDone_6 {d : Nat} {σ : Int → Int → Int} {T : TT} {P : Int → AM → Prop} {l1 : Int} {l2 : Int} {s0 : Int} (h : (brK (Nat.beq ((kd (SHt T) l1) + 1) 8) (wpI d 123 0 [aR l1, aI l2, aI 2, aU] [] (mk σ T) (fun r M' => (wpI (d + 1) 22 13 [aR 2, aR l1, aI l2, aI s0, aU, aU] [aI r] M' P))) False)) : wpI (d + 1) 22 6 [aR 2, aR l1, aI l2, aU, aU, aU] [aI s0] (mk σ T) P := wpn_s 2000 [] [] h
set_option maxRecDepth 100000 in
theorem g_Af_isDone_13 {d : Nat} {σ : Int → Int → Int} {T : TT} {P : Int → AM → Prop} {l1 : Int} {l2 : Int} {l3 : Int} {s0 : Int} (h : (brK (Nat.beq ((kd (SHt T) l1) + 1) 8) (wpI d 123 0 [aR l1, aI l2, aI 3, aU] [] (mk σ T) (fun r M' => (wpI (d + 1) 22 21 [aR 2, aR l1, aI l2, aI l3, aI s0, aU] [aI r] M' P))) False)) : wpI (d + 1) 22 13 [aR 2, aR l1, aI l2, aI l3, aU, aU] [aI s0] (mk σ T) P := wpn_s 2000 [] [] h
set_option maxRecDepth 100000 in
theorem g_Af_isDone_21 {d : Nat} {σ : Int → Int → Int} {T : TT} {P : Int → AM → Prop} {l1 : Int} {l2 : Int} {l3 : Int} {l4 : Int} {s0 : Int} (h : (brK (Nat.beq ((kd (SHt T) l1) + 1) 8) (wpI d 123 0 [aR l1, aI l2, aI 0, aU] [] (mk σ T) (fun r M' => (wpI (d + 1) 22 29 [aR 2, aR l1, aI l2, aI l3, aI l4, aI s0] [aI r] M' P))) False)) : wpI (d + 1) 22 21 [aR 2, aR l1, aI l2, aI l3, aI l4, aU] [aI s0] (mk σ T) P := wpn_s 2000 [] [] h
set_option maxRecDepth 100000 in
theorem g_Af_isDone_29 {d : Nat} {σ : Int → Int → Int} {T : TT} {P : Int → AM → Prop} {l1 : Int} {l2 : Int} {l3 : Int} {l4 : Int} {l5 : Int} {s0 : Int} (h : (brK (decide (s0 = 4)) (wpI d 2 0 [aR 2, aI l3] [] (mk σ T) (fun r M' => (wpI (d + 1) 22 85 [aR 2, aR l1, aI l2, aI l3, aI l4, aI l5] [aI r] M' P))) (brK (decide (s0 = 5)) (brK (Nat.beq ((kd (SHt T) l1) + 1) 8) (wpI d 123 0 [aR l1, aI l2, aI 4, aU] [] (mk σ T) (fun r M' => (wpI (d + 1) 22 107 [aR 2, aR l1, aI l2, aI l3, aI l4, aI l5] [aI r, aI l4, aI l3, aI l5, aR 2] M' P))) False) (brK (decide (s0 = 6)) (wpI d 7 0 [aR 2, aI l3] [] (mk σ T) (fun r M' => (wpI (d + 1) 22 126 [aR 2, aR l1, aI l2, aI l3, aI l4, aI l5] [aI r] M' P))) (brK (decide (s0 = 7)) (wpI d 16 0 [aR 2, aI l3, aI l4, aI l5, aU] [] (mk σ T) (fun r M' => (wpI (d + 1) 22 145 [aR 2, aR l1, aI l2, aI l3, aI l4, aI l5] [aI r] M' P))) (brK (decide (s0 = 8)) (wpI d 17 0 [aR 2, aI l3] [] (mk σ T) (fun r M' => (wpI (d + 1) 22 151 [aR 2, aR l1, aI l2, aI l3, aI l4, aI l5] [aI r] M' P))) (brK (decide (s0 = 9)) (wpI d 18 0 [aR 2, aI l3] [] (mk σ T) (fun r M' => (wpI (d + 1) 22 167 [aR 2, aR l1, aI l2, aI l3, aI l4, aI l5] [aI r] M' P))) (brK (decide (s0 = 10)) (wpI d 19 0 [aR 2, aI l3, aI 1] [] (mk σ T) (fun r M' => (wpI (d + 1) 22 184 [aR 2, aR l1, aI l2, aI l3, aI l4, aI l5] [aI r] M' P))) (brK (decide (s0 = 11)) (wpI d 19 0 [aR 2, aI l3, aI 0] [] (mk σ T) (fun r M' => (wpI (d + 1) 22 200 [aR 2, aR l1, aI l2, aI l3, aI l4, aI l5] [aI r] M' P))) (brK (decide (s0 = 12)) (wpI d 20 0 [aR 2] [] (mk σ T) (fun r M' => (wpI (d + 1) 22 214 [aR 2, aR l1, aI l2, aI l3, aI l4, aI l5] [aI r] M' P))) (P 1 (mk σ T)))))))))))) : wpI (d + 1) 22 29 [aR 2, aR l1, aI l2, aI l3, aI l4, aI l5] [aI s0] (mk σ T) P := wpn_s 2000 [] [] h
set_option maxRecDepth 100000 in
theorem g_Af_isDone_85 {d : Nat} {σ : Int → Int → Int} {T : TT} {P : Int → AM → Prop} {l1 : Int} {l2 : Int} {l3 : Int} {l4 : Int} {l5 : Int} {s0 : Int} (h : (brK (decide (s0 = (-1))) (P 0 (mk σ T)) (P 1 (mk σ T)))) : wpI d 22 85 [aR 2, aR l1, aI l2, aI l3, aI l4, aI l5] [aI s0] (mk σ T) P := wpn_s 2000 [] [] h
set_option maxRecDepth 100000 in
theorem g_Af_isDone_107 {d : Nat} {σ : Int → Int → Int} {T : TT} {P : Int → AM → Prop} {l1 : Int} {l2 : Int} {l3 : Int} {l4 : Int} {l5 : Int} {s1 : Int} {s2 : Int} {s3 : Int} {s4 : Int} (h : (wpI d 4 0 [aR 2, aI s1, aI s2, aI s3, aI s4, aI (-1)] [] (mk σ T) (fun r M' => (wpI (d + 1) 22 111 [aR 2, aR l1, aI l2, aI l3, aI l4, aI l5] [aI r] M' P)))) : wpI (d + 1) 22 107 [aR 2, aR l1, aI l2, aI l3, aI l4, aI l5] [aI s4, aI s3, aI s2, aI s1, aR 2] (mk σ T) P := wpn_s 2000 [] [] h
set_option maxRecDepth 100000 in
theorem g_Af_isDone_111 {d : Nat} {σ : Int → Int → Int} {T : TT} {P : Int → AM → Prop} {l1 : Int} {l2 : Int} {l3 : Int} {l4 : Int} {l5 : Int} {s0 : Int} (h : (brK (decide (s0 = (-1))) (P 0 (mk σ T)) (P 1 (mk σ T)))) : wpI d 22 111 [aR 2, aR l1, aI l2, aI l3, aI l4, aI l5] [aI s0] (mk σ T) P := wpn_s 2000 [] [] h
set_option maxRecDepth 100000 in
theorem g_Af_isDone_126 {d : Nat} {σ : Int → Int → Int} {T : TT} {P : Int → AM → Prop} {l1 : Int} {l2 : Int} {l3 : Int} {l4 : Int} {l5 : Int} {s0 : Int} (h : (brK (decide (s0 = (-1))) (P 0 (mk σ T)) (P 1 (mk σ T)))) : wpI d 22 126 [aR 2, aR l1, aI l2, aI l3, aI l4, aI l5] [aI s0] (mk σ T) P := wpn_s 2000 [] [] h
set_option maxRecDepth 100000 in
theorem g_Af_isDone_145 {d : Nat} {σ : Int → Int → Int} {T : TT} {P : Int → AM → Prop} {l1 : Int} {l2 : Int} {l3 : Int} {l4 : Int} {l5 : Int} {s0 : Int} (h : (brK (decide ((1 : Int) = 0 ∨ s0 = 0 ∨ s0 = 1)) (P s0 (mk σ T)) False)) : wpI d 22 145 [aR 2, aR l1, aI l2, aI l3, aI l4, aI l5] [aI s0] (mk σ T) P := wpn_s 2000 [] [] h
set_option maxRecDepth 100000 in
theorem g_Af_isDone_151 {d : Nat} {σ : Int → Int → Int} {T : TT} {P : Int → AM → Prop} {l1 : Int} {l2 : Int} {l3 : Int} {l4 : Int} {l5 : Int} {s0 : Int} (h : (brK (decide (s0 = (-100000))) (P 0 (mk σ T)) (P 1 (mk σ T)))) : wpI d 22 151 [aR 2, aR l1, aI l2, aI l3, aI l4, aI l5] [aI s0] (mk σ T) P := wpn_s 2000 [] [] h
set_option maxRecDepth 100000 in
theorem g_Af_isDone_167 {d : Nat} {σ : Int → Int → Int} {T : TT} {P : Int → AM → Prop} {l1 : Int} {l2 : Int} {l3 : Int} {l4 : Int} {l5 : Int} {s0 : Int} (h : (brK (decide (s0 = (-100000))) (P 0 (mk σ T)) (P 1 (mk σ T)))) : wpI d 22 167 [aR 2, aR l1, aI l2, aI l3, aI l4, aI l5] [aI s0] (mk σ T) P := wpn_s 2000 [] [] h
set_option maxRecDepth 100000 in
theorem g_Af_isDone_184 {d : Nat} {σ : Int → Int → Int} {T : TT} {P : Int → AM → Prop} {l1 : Int} {l2 : Int} {l3 : Int} {l4 : Int} {l5 : Int} {s0 : Int} (h : (brK (decide (s0 = (-1))) (P 0 (mk σ T)) (P 1 (mk σ T)))) : wpI d 22 184 [aR 2, aR l1, aI l2, aI l3, aI l4, aI l5] [aI s0] (mk σ T) P := wpn_s 2000 [] [] h
set_option maxRecDepth 100000 in
theorem g_Af_isDone_200 {d : Nat} {σ : Int → Int → Int} {T : TT} {P : Int → AM → Prop} {l1 : Int} {l2 : Int} {l3 : Int} {l4 : Int} {l5 : Int} {s0 : Int} (h : (brK (decide (s0 = (-1))) (P 0 (mk σ T)) (P 1 (mk σ T)))) : wpI d 22 200 [aR 2, aR l1, aI l2, aI l3, aI l4, aI l5] [aI s0] (mk σ T) P := wpn_s 2000 [] [] h
set_option maxRecDepth 100000 in
theorem g_Af_isDone_214 {d : Nat} {σ : Int → Int → Int} {T : TT} {P : Int → AM → Prop} {l1 : Int} {l2 : Int} {l3 : Int} {l4 : Int} {l5 : Int} {s0 : Int} (h : (brK (decide (s0 = (-1))) (P 0 (mk σ T)) (P 1 (mk σ T)))) : wpI d 22 214 [aR 2, aR l1, aI l2, aI l3, aI l4, aI l5] [aI s0] (mk σ T) P := wpn_s 2000 [] [] h
-- Af_day (II)I
set_option maxRecDepth 100000 in
theorem g_Af_day_0 {d : Nat} {σ : Int → Int → Int} {T : TT} {P : Int → AM → Prop} {l1 : Int} {l2 : Int} (h : (brK (decide (l1 < 0)) (P (-1) (mk σ T)) (brK (decide (9999 < l1)) (P (-1) (mk σ T)) (brK (decide (l2 < 1)) (P (-1) (mk σ T)) (brK (decide (20 < l2)) (P (-1) (mk σ T)) (brK (decide ((σ 3 0) = 0)) (P (-1) (mk σ T)) (wpV d 74 0 [aR 19, aR 16] [] (mk σ T) (fun M' => (wpI (d + 1) 23 44 [aR 2, aI l1, aI l2, aU, aU] [] M' P))))))))) : wpI (d + 1) 23 0 [aR 2, aI l1, aI l2, aU, aU] [] (mk σ T) P := wpn_s 2000 [(23, 62)] [3] h
set_option maxRecDepth 100000 in
theorem g_Af_day_44 {d : Nat} {σ : Int → Int → Int} {T : TT} {P : Int → AM → Prop} {l1 : Int} {l2 : Int} (h : (wpI d 23 62 [aR 2, aI l1, aI l2, aI 0, aI 0] [] (mk (up σ 16 7 (w32 ((w32 (l1 * 2)) + 19))) T) P)) : wpI d 23 44 [aR 2, aI l1, aI l2, aU, aU] [] (mk σ T) P := wpn_s 2000 [(23, 62)] [] h
set_option maxRecDepth 100000 in
theorem g_Af_day_62 {d : Nat} {σ : Int → Int → Int} {T : TT} {P : Int → AM → Prop} {l1 : Int} {l2 : Int} {l3 : Int} {l4 : Int} (h : (brK (decide (l4 < l2)) (wpI d 103 0 [aR 42, aU, aU, aU, aU] [] (mk σ T) (fun r M' => (wpI (d + 1) 23 75 [aR 2, aI l1, aI l2, aI l3, aI l4] [aI r] M' P))) (P l3 (mk σ T)))) : wpI (d + 1) 23 62 [aR 2, aI l1, aI l2, aI l3, aI l4] [] (mk σ T) P := wpn_s 2000 [(23, 62)] [] h
set_option maxRecDepth 100000 in
theorem g_Af_day_75 {d : Nat} {σ : Int → Int → Int} {T : TT} {P : Int → AM → Prop} {l1 : Int} {l2 : Int} {l3 : Int} {l4 : Int} {s0 : Int} (h : (brK (decide (s0 = 0)) (wpI d 23 62 [aR 2, aI l1, aI l2, aI (w32 (l3 + 1)), aI (w32 (l4 + 1))] [] (mk σ T) P) (wpI d 23 62 [aR 2, aI l1, aI l2, aI l3, aI (w32 (l4 + 1))] [] (mk σ T) P))) : wpI d 23 75 [aR 2, aI l1, aI l2, aI l3, aI l4] [aI s0] (mk σ T) P := wpn_s 2000 [(23, 62)] [] h
-- Af_undo ()I
set_option maxRecDepth 100000 in
theorem g_Af_undo_0 {d : Nat} {σ : Int → Int → Int} {T : TT} {P : Int → AM → Prop} (h : (wpI d 75 0 [aR 19, aR 16] [] (mk σ T) (fun r M' => (wpI (d + 1) 24 11 [aR 2] [aI r] M' P)))) : wpI (d + 1) 24 0 [aR 2] [] (mk σ T) P := wpn_s 2000 [] [] h
set_option maxRecDepth 100000 in
theorem g_Af_undo_11 {d : Nat} {σ : Int → Int → Int} {T : TT} {P : Int → AM → Prop} {s0 : Int} (h : (brK (decide (s0 = 0)) (P (-1) (mk σ T)) (P (σ 19 0) (mk σ T)))) : wpI d 24 11 [aR 2] [aI s0] (mk σ T) P := wpn_s 2000 [] [] h
-- Af_scale (I)I
set_option maxRecDepth 100000 in
theorem g_Af_scale_0 {d : Nat} {σ : Int → Int → Int} {T : TT} {P : Int → AM → Prop} {l1 : Int} (h : (brK (decide ((σ 16 0) = (-1))) (P (-100000) (mk σ T)) (brK (decide (l1 = 0)) (P (σ 16 0) (mk σ T)) (brK (decide (l1 = 1)) (P (σ 16 1) (mk σ T)) (brK (decide (l1 = 2)) (P (σ 16 2) (mk σ T)) (brK (decide (l1 = 3)) (P (σ 16 3) (mk σ T)) (brK (decide (l1 = 4)) (P (σ 16 4) (mk σ T)) (brK (decide (l1 = 5)) (P (σ 16 5) (mk σ T)) (P (-100000) (mk σ T)))))))))) : wpI d 25 0 [aR 2, aI l1] [] (mk σ T) P := wpn_s 2000 [] [] h
-- Af_ofHeart (II)I
set_option maxRecDepth 100000 in
theorem g_Af_ofHeart_0 {d : Nat} {σ : Int → Int → Int} {T : TT} {P : Int → AM → Prop} {l1 : Int} {l2 : Int} (h : (brK (decide (l1 < 0)) (P (-100000) (mk σ T)) (brK (decide (l1 < (σ 3 0))) (brK (decide (l2 = 0)) (brK (decide ((0 : Int) ≤ l1 ∧ (l1 : Int) < 6)) (P (σ 4 l1) (mk σ T)) False) (brK (decide (l2 = 1)) (wpI d 62 0 [aR 3, aI l1, aU, aU] [] (mk σ T) (fun r M' => (wpI (d + 1) 26 66 [aR 2, aI l1, aI l2] [aI r] M' P))) (brK (decide (l2 = 2)) (wpI d 89 0 [aR 39, aI l1] [] (mk σ T) (fun r M' => (wpI (d + 1) 26 75 [aR 2, aI l1, aI l2] [aI r] M' P))) (brK (decide (l2 = 3)) (brK (decide ((0 : Int) ≤ l1 ∧ (l1 : Int) < 6)) (wpI d 89 0 [aR 39, aI l1] [] (mk σ T) (fun r M' => (wpI (d + 1) 26 93 [aR 2, aI l1, aI l2] [aI r, aI (σ 4 l1)] M' P))) False) (brK (decide (l2 = 4)) (wpI d 68 0 [aR 16, aI l1, aU, aU] [] (mk σ T) (fun r M' => (wpI (d + 1) 26 103 [aR 2, aI l1, aI l2] [aI r] M' P))) (brK (decide (l2 < 10)) (P (-100000) (mk σ T)) (brK (decide ((w32 (l2 - 10)) < 0)) (P (-100000) (mk σ T)) (brK (decide ((w32 (l2 - 10)) < (σ 3 0))) (brK (decide ((0 : Int) ≤ (w32 ((w32 ((w32 (l1 * 6)) + l2)) - 10)) ∧ ((w32 ((w32 ((w32 (l1 * 6)) + l2)) - 10)) : Int) < 36)) (P (σ 17 (w32 ((w32 ((w32 (l1 * 6)) + l2)) - 10))) (mk σ T)) False) (P (-100000) (mk σ T)))))))))) (P (-100000) (mk σ T))))) : wpI (d + 1) 26 0 [aR 2, aI l1, aI l2] [] (mk σ T) P := wpn_s 2000 [] [55] h
set_option maxRecDepth 100000 in
theorem g_Af_ofHeart_66 {d : Nat} {σ : Int → Int → Int} {T : TT} {P : Int → AM → Prop} {l1 : Int} {l2 : Int} {s0 : Int} (h : (P s0 (mk σ T))) : wpI d 26 66 [aR 2, aI l1, aI l2] [aI s0] (mk σ T) P := wpn_s 2000 [] [] h
set_option maxRecDepth 100000 in
theorem g_Af_ofHeart_75 {d : Nat} {σ : Int → Int → Int} {T : TT} {P : Int → AM → Prop} {l1 : Int} {l2 : Int} {s0 : Int} (h : (P s0 (mk σ T))) : wpI d 26 75 [aR 2, aI l1, aI l2] [aI s0] (mk σ T) P := wpn_s 2000 [] [] h
set_option maxRecDepth 100000 in
theorem g_Af_ofHeart_93 {d : Nat} {σ : Int → Int → Int} {T : TT} {P : Int → AM → Prop} {l1 : Int} {l2 : Int} {s0 : Int} {s1 : Int} (h : (P (w32 (s0 - s1)) (mk σ T))) : wpI d 26 93 [aR 2, aI l1, aI l2] [aI s1, aI s0] (mk σ T) P := wpn_s 2000 [] [] h
set_option maxRecDepth 100000 in
theorem g_Af_ofHeart_103 {d : Nat} {σ : Int → Int → Int} {T : TT} {P : Int → AM → Prop} {l1 : Int} {l2 : Int} {s0 : Int} (h : (P s0 (mk σ T))) : wpI d 26 103 [aR 2, aI l1, aI l2] [aI s0] (mk σ T) P := wpn_s 2000 [] [] h
-- Af_ofDeed (II)I
set_option maxRecDepth 100000 in
theorem g_Af_ofDeed_0 {d : Nat} {σ : Int → Int → Int} {T : TT} {P : Int → AM → Prop} {l1 : Int} {l2 : Int} (h : (brK (decide (l1 < 0)) (P (-100000) (mk σ T)) (brK (decide (l1 < (σ 3 2))) (brK (decide (l2 = 0)) (brK (decide ((0 : Int) ≤ l1 ∧ (l1 : Int) < 24)) (P (σ 5 l1) (mk σ T)) False) (brK (decide (l2 = 1)) (brK (decide ((0 : Int) ≤ l1 ∧ (l1 : Int) < 24)) (P (σ 6 l1) (mk σ T)) False) (brK (decide (l2 = 2)) (brK (decide ((0 : Int) ≤ l1 ∧ (l1 : Int) < 24)) (P (σ 7 l1) (mk σ T)) False) (brK (decide (l2 = 3)) (brK (decide ((0 : Int) ≤ l1 ∧ (l1 : Int) < 24)) (P (σ 8 l1) (mk σ T)) False) (brK (decide (l2 = 4)) (brK (decide ((0 : Int) ≤ l1 ∧ (l1 : Int) < 24)) (P (σ 9 l1) (mk σ T)) False) (brK (decide (l2 = 5)) (brK (decide ((0 : Int) ≤ l1 ∧ (l1 : Int) < 24)) (P (σ 10 l1) (mk σ T)) False) (brK (decide (l2 = 6)) (brK (decide ((σ 3 15) < 0)) (wpI (d + 1) 84 0 [aR 39, aR 0, aI l1, aU] [] (mk σ T) (fun r M' => (wpI (d + 2) 27 131 [aR 2, aI l1, aI l2] [aI r] M' P))) (brK (decide ((σ 3 15) < (σ 3 13))) (brK (decide ((0 : Int) ≤ (σ 3 15) ∧ ((σ 3 15) : Int) < 4)) (wpI (d + 1) 84 0 [aR 39, aR (σ 13 (σ 3 15)), aI l1, aU] [] (mk σ T) (fun r M' => (wpI (d + 2) 27 131 [aR 2, aI l1, aI l2] [aI r] M' P))) False) (wpI (d + 1) 84 0 [aR 39, aR 0, aI l1, aU] [] (mk σ T) (fun r M' => (wpI (d + 2) 27 131 [aR 2, aI l1, aI l2] [aI r] M' P))))) (P (-100000) (mk σ T))))))))) (P (-100000) (mk σ T))))) : wpI (d + 2) 27 0 [aR 2, aI l1, aI l2] [] (mk σ T) P := wpn_s 2000 [] [58, 59, 60] h
set_option maxRecDepth 100000 in
theorem g_Af_ofDeed_131 {d : Nat} {σ : Int → Int → Int} {T : TT} {P : Int → AM → Prop} {l1 : Int} {l2 : Int} {s0 : Int} (h : (P s0 (mk σ T))) : wpI d 27 131 [aR 2, aI l1, aI l2] [aI s0] (mk σ T) P := wpn_s 2000 [] [] h
-- Af_isSo (II)I
set_option maxRecDepth 100000 in
theorem g_Af_isSo_0 {d : Nat} {σ : Int → Int → Int} {T : TT} {P : Int → AM → Prop} {l1 : Int} {l2 : Int} (h : (brK (decide (l1 < 0)) (P (-1) (mk σ T)) (brK (decide (l1 < (σ 3 9))) (brK (decide (l2 < 0)) (P (-1) (mk σ T)) (brK (decide (l2 < (σ 3 0))) (brK (decide ((0 : Int) ≤ l1 ∧ (l1 : Int) < 8)) (wpI d 85 0 [aR 39, aI l2, aU, aU, aU] [] (mk σ T) (fun r M' => (wpI (d + 1) 28 41 [aR 2, aI l1, aI l2] [aI r, aI (σ 11 l1)] M' P))) False) (P (-1) (mk σ T)))) (P (-1) (mk σ T))))) : wpI (d + 1) 28 0 [aR 2, aI l1, aI l2] [] (mk σ T) P := wpn_s 2000 [] [55, 61] h
set_option maxRecDepth 100000 in
theorem g_Af_isSo_41 {d : Nat} {σ : Int → Int → Int} {T : TT} {P : Int → AM → Prop} {l1 : Int} {l2 : Int} {s0 : Int} {s1 : Int} (h : (brK (decide ((bA s0 s1) = 0)) (P 0 (mk σ T)) (P 1 (mk σ T)))) : wpI d 28 41 [aR 2, aI l1, aI l2] [aI s1, aI s0] (mk σ T) P := wpn_s 2000 [] [] h
-- Af_book (II)I
set_option maxRecDepth 100000 in
theorem g_Af_book_0 {d : Nat} {σ : Int → Int → Int} {T : TT} {P : Int → AM → Prop} {l1 : Int} {l2 : Int} (h : (brK (decide (l1 = (-1))) (P (σ 16 8) (mk σ T)) (brK (decide (l1 < 0)) (P (-100000) (mk σ T)) (brK (decide (l1 < (σ 16 8))) (brK (decide (l2 < 0)) (P (-100000) (mk σ T)) (brK (decide (l2 < 5)) (brK (decide ((0 : Int) ≤ (w32 ((w32 (l1 * 5)) + l2)) ∧ ((w32 ((w32 (l1 * 5)) + l2)) : Int) < 150)) (P (σ 18 (w32 ((w32 (l1 * 5)) + l2))) (mk σ T)) False) (P (-100000) (mk σ T)))) (P (-100000) (mk σ T)))))) : wpI (d + 1) 29 0 [aR 2, aI l1, aI l2] [] (mk σ T) P := wpn_s 2000 [] [71] h
-- Af_lightest (IZI)I
set_option maxRecDepth 100000 in
theorem g_Af_lightest_0 {d : Nat} {σ : Int → Int → Int} {T : TT} {P : Int → AM → Prop} {l1 : Int} {l2 : Int} {l3 : Int} (h : (wpI d 107 0 [aR 44, aI l1] [] (mk σ T) (fun r M' => (wpI (d + 1) 30 8 [aR 2, aI l1, aI l2, aI l3] [aI r] M' P)))) : wpI (d + 1) 30 0 [aR 2, aI l1, aI l2, aI l3] [] (mk σ T) P := wpn_s 2000 [] [] h
set_option maxRecDepth 100000 in
theorem g_Af_lightest_8 {d : Nat} {σ : Int → Int → Int} {T : TT} {P : Int → AM → Prop} {l1 : Int} {l2 : Int} {l3 : Int} {s0 : Int} (h : (brK (decide (s0 = 0)) (P (-100000) (mk σ T)) (wpV d 108 0 [aR 44, aI l1, aI (σ 3 11), aU] [] (mk σ T) (fun M' => (wpI (d + 1) 30 29 [aR 2, aI l1, aI l2, aI l3] [] M' P))))) : wpI (d + 1) 30 8 [aR 2, aI l1, aI l2, aI l3] [aI s0] (mk σ T) P := wpn_s 2000 [] [] h
set_option maxRecDepth 100000 in
theorem g_Af_lightest_29 {d : Nat} {σ : Int → Int → Int} {T : TT} {P : Int → AM → Prop} {l1 : Int} {l2 : Int} {l3 : Int} (h : (brK (decide (l3 = (-1))) (brK (decide (l2 = 0)) (P (σ 44 10) (mk σ T)) (P (σ 44 12) (mk σ T))) (brK (decide (l3 < 0)) (P (-100000) (mk σ T)) (brK (decide (l3 < (σ 44 5))) (brK (decide (l2 = 0)) (brK (decide ((0 : Int) ≤ l3 ∧ (l3 : Int) < 7)) (P (σ 48 l3) (mk σ T)) False) (brK (decide ((0 : Int) ≤ l3 ∧ (l3 : Int) < 7)) (P (σ 49 l3) (mk σ T)) False)) (P (-100000) (mk σ T)))))) : wpI d 30 29 [aR 2, aI l1, aI l2, aI l3] [] (mk σ T) P := wpn_s 2000 [] [] h
-- Af_passing (II)I
set_option maxRecDepth 100000 in
theorem g_Af_passing_0 {d : Nat} {σ : Int → Int → Int} {T : TT} {P : Int → AM → Prop} {l1 : Int} {l2 : Int} (h : (wpI d 107 0 [aR 44, aI l1] [] (mk σ T) (fun r M' => (wpI (d + 1) 31 8 [aR 2, aI l1, aI l2] [aI r] M' P)))) : wpI (d + 1) 31 0 [aR 2, aI l1, aI l2] [] (mk σ T) P := wpn_s 2000 [] [] h
set_option maxRecDepth 100000 in
theorem g_Af_passing_8 {d : Nat} {σ : Int → Int → Int} {T : TT} {P : Int → AM → Prop} {l1 : Int} {l2 : Int} {s0 : Int} (h : (brK (decide (s0 = 0)) (P (-2) (mk σ T)) (wpV d 108 0 [aR 44, aI l1, aI (σ 3 11), aU] [] (mk σ T) (fun M' => (wpI (d + 1) 31 29 [aR 2, aI l1, aI l2] [] M' P))))) : wpI (d + 1) 31 8 [aR 2, aI l1, aI l2] [aI s0] (mk σ T) P := wpn_s 2000 [] [] h
set_option maxRecDepth 100000 in
theorem g_Af_passing_29 {d : Nat} {σ : Int → Int → Int} {T : TT} {P : Int → AM → Prop} {l1 : Int} {l2 : Int} (h : (brK (decide (l2 = (-1))) (brK (decide ((σ 44 14) = 0)) (P 0 (mk σ T)) (P 1 (mk σ T))) (brK (decide ((σ 44 14) = 0)) (P (-2) (mk σ T)) (brK (decide (l2 < 0)) (P (-2) (mk σ T)) (brK (decide (l2 < (σ 44 5))) (brK (decide ((0 : Int) ≤ l2 ∧ (l2 : Int) < 7)) (P (σ 50 l2) (mk σ T)) False) (P (-2) (mk σ T))))))) : wpI d 31 29 [aR 2, aI l1, aI l2] [] (mk σ T) P := wpn_s 2000 [] [] h
-- Af_orderless (I)I
set_option maxRecDepth 100000 in
theorem g_Af_orderless_0 {d : Nat} {σ : Int → Int → Int} {T : TT} {P : Int → AM → Prop} {l1 : Int} (h : (wpI d 107 0 [aR 44, aI l1] [] (mk σ T) (fun r M' => (wpI (d + 1) 32 8 [aR 2, aI l1] [aI r] M' P)))) : wpI (d + 1) 32 0 [aR 2, aI l1] [] (mk σ T) P := wpn_s 2000 [] [] h
set_option maxRecDepth 100000 in
theorem g_Af_orderless_8 {d : Nat} {σ : Int → Int → Int} {T : TT} {P : Int → AM → Prop} {l1 : Int} {s0 : Int} (h : (brK (decide (s0 = 0)) (P (-1) (mk σ T)) (wpV d 108 0 [aR 44, aI l1, aI (σ 3 11), aU] [] (mk σ T) (fun M' => (wpI (d + 1) 32 28 [aR 2, aI l1] [] M' P))))) : wpI (d + 1) 32 8 [aR 2, aI l1] [aI s0] (mk σ T) P := wpn_s 2000 [] [] h
set_option maxRecDepth 100000 in
theorem g_Af_orderless_28 {d : Nat} {σ : Int → Int → Int} {T : TT} {P : Int → AM → Prop} {l1 : Int} (h : (brK (decide ((σ 44 10) = (σ 44 12))) (P 1 (mk σ T)) (P 0 (mk σ T)))) : wpI d 32 28 [aR 2, aI l1] [] (mk σ T) P := wpn_s 2000 [] [] h
-- Af_sticking (I)I
set_option maxRecDepth 100000 in
theorem g_Af_sticking_0 {d : Nat} {σ : Int → Int → Int} {T : TT} {P : Int → AM → Prop} {l1 : Int} (h : (wpI d 107 0 [aR 44, aI l1] [] (mk σ T) (fun r M' => (wpI (d + 1) 33 8 [aR 2, aI l1] [aI r] M' P)))) : wpI (d + 1) 33 0 [aR 2, aI l1] [] (mk σ T) P := wpn_s 2000 [] [] h
set_option maxRecDepth 100000 in
theorem g_Af_sticking_8 {d : Nat} {σ : Int → Int → Int} {T : TT} {P : Int → AM → Prop} {l1 : Int} {s0 : Int} (h : (brK (decide (s0 = 0)) (P (-1) (mk σ T)) (wpI d 114 0 [aR 44, aI l1, aU] [] (mk σ T) (fun r M' => (wpI (d + 1) 33 19 [aR 2, aI l1] [aI r] M' P))))) : wpI (d + 1) 33 8 [aR 2, aI l1] [aI s0] (mk σ T) P := wpn_s 2000 [] [] h
set_option maxRecDepth 100000 in
theorem g_Af_sticking_19 {d : Nat} {σ : Int → Int → Int} {T : TT} {P : Int → AM → Prop} {l1 : Int} {s0 : Int} (h : (P s0 (mk σ T))) : wpI d 33 19 [aR 2, aI l1] [aI s0] (mk σ T) P := wpn_s 2000 [] [] h
-- Af_truly (I)I
set_option maxRecDepth 100000 in
theorem g_Af_truly_0 {d : Nat} {σ : Int → Int → Int} {T : TT} {P : Int → AM → Prop} {l1 : Int} (h : (brK (decide (l1 < 0)) (P (-1) (mk σ T)) (brK (decide (l1 < (σ 3 0))) (wpI d 115 0 [aR 44, aI l1, aU, aU, aU] [] (mk σ T) (fun r M' => (wpI (d + 1) 34 21 [aR 2, aI l1] [aI r] M' P))) (P (-1) (mk σ T))))) : wpI (d + 1) 34 0 [aR 2, aI l1] [] (mk σ T) P := wpn_s 2000 [] [55] h
set_option maxRecDepth 100000 in
theorem g_Af_truly_21 {d : Nat} {σ : Int → Int → Int} {T : TT} {P : Int → AM → Prop} {l1 : Int} {s0 : Int} (h : (P (bX s0 (w32 ((sL 1 (σ 3 9)) - 1))) (mk σ T))) : wpI d 34 21 [aR 2, aI l1] [aI s0] (mk σ T) P := wpn_s 2000 [] [] h
-- Af_lies (II)I
set_option maxRecDepth 100000 in
theorem g_Af_lies_0 {d : Nat} {σ : Int → Int → Int} {T : TT} {P : Int → AM → Prop} {l1 : Int} {l2 : Int} (h : (brK (decide (l1 < 0)) (P (-1) (mk σ T)) (brK (decide (l1 < (σ 3 0))) (brK (decide (l2 < 0)) (P (-1) (mk σ T)) (brK (decide (8 < l2)) (P (-1) (mk σ T)) (wpI d 116 0 [aR 44, aI l1, aI l2, aU, aU, aU] [] (mk σ T) (fun r M' => (wpI (d + 1) 35 31 [aR 2, aI l1, aI l2] [aI r] M' P))))) (P (-1) (mk σ T))))) : wpI (d + 1) 35 0 [aR 2, aI l1, aI l2] [] (mk σ T) P := wpn_s 2000 [] [3, 55] h
set_option maxRecDepth 100000 in
theorem g_Af_lies_31 {d : Nat} {σ : Int → Int → Int} {T : TT} {P : Int → AM → Prop} {l1 : Int} {l2 : Int} {s0 : Int} (h : (P s0 (mk σ T))) : wpI d 35 31 [aR 2, aI l1, aI l2] [aI s0] (mk σ T) P := wpn_s 2000 [] [] h
-- Af_lending (II)I
set_option maxRecDepth 100000 in
theorem g_Af_lending_0 {d : Nat} {σ : Int → Int → Int} {T : TT} {P : Int → AM → Prop} {l1 : Int} {l2 : Int} (h : (wpI d 125 0 [aR 51, aU] [] (mk σ T) (fun r M' => (wpI (d + 1) 36 7 [aR 2, aI l1, aI l2, aU] [aI r] M' P)))) : wpI (d + 1) 36 0 [aR 2, aI l1, aI l2, aU] [] (mk σ T) P := wpn_s 2000 [] [] h
set_option maxRecDepth 100000 in
theorem g_Af_lending_7 {d : Nat} {σ : Int → Int → Int} {T : TT} {P : Int → AM → Prop} {l1 : Int} {l2 : Int} {s0 : Int} (h : (brK (decide (l1 = (-1))) (brK (decide (s0 = 0)) (P 0 (mk σ T)) (P 1 (mk σ T))) (brK (decide (s0 = 0)) (P (-1) (mk σ T)) (brK (decide (l1 < 0)) (P (-1) (mk σ T)) (brK (decide (l1 < (σ 3 0))) (brK (decide (l2 < 0)) (P (-1) (mk σ T)) (brK (decide (l2 < (σ 3 0))) (brK (decide (l1 = l2)) (P (-1) (mk σ T)) (brK (decide ((0 : Int) ≤ (w32 ((w32 (l1 * 6)) + l2)) ∧ ((w32 ((w32 (l1 * 6)) + l2)) : Int) < 36)) (P (σ 54 (w32 ((w32 (l1 * 6)) + l2))) (mk σ T)) False)) (P (-1) (mk σ T)))) (P (-1) (mk σ T))))))) : wpI (d + 2) 36 7 [aR 2, aI l1, aI l2, aU] [aI s0] (mk σ T) P := wpn_s 2000 [] [55, 56] h
-- Af_whoCannot ()I
set_option maxRecDepth 100000 in
theorem g_Af_whoCannot_0 {d : Nat} {σ : Int → Int → Int} {T : TT} {P : Int → AM → Prop} (h : (wpV d 126 0 [aR 51, aU] [] (mk σ T) (fun M' => (wpI (d + 1) 37 7 [aR 2] [] M' P)))) : wpI (d + 1) 37 0 [aR 2] [] (mk σ T) P := wpn_s 2000 [] [] h
set_option maxRecDepth 100000 in
theorem g_Af_whoCannot_7 {d : Nat} {σ : Int → Int → Int} {T : TT} {P : Int → AM → Prop} (h : (wpI d 127 0 [aR 51, aU] [] (mk σ T) (fun r M' => (wpI (d + 1) 37 14 [aR 2] [aI r] M' P)))) : wpI (d + 1) 37 7 [aR 2] [] (mk σ T) P := wpn_s 2000 [] [] h
set_option maxRecDepth 100000 in
theorem g_Af_whoCannot_14 {d : Nat} {σ : Int → Int → Int} {T : TT} {P : Int → AM → Prop} {s0 : Int} (h : (P s0 (mk σ T))) : wpI d 37 14 [aR 2] [aI s0] (mk σ T) P := wpn_s 2000 [] [] h
-- Af_kindness (I)I
set_option maxRecDepth 100000 in
theorem g_Af_kindness_0 {d : Nat} {σ : Int → Int → Int} {T : TT} {P : Int → AM → Prop} {l1 : Int} (h : (brK (decide (l1 < 1)) (P (-1) (mk σ T)) (brK (decide (l1 < 0)) (P (-1) (mk σ T)) (brK (decide ((sR l1 (σ 3 2)) = 0)) (wpI (d + 1) 38 25 [aR 2, aI l1, aI (-1), aI 1, aU] [] (mk σ T) P) (P (-1) (mk σ T)))))) : wpI (d + 1) 38 0 [aR 2, aI l1, aU, aU, aU] [] (mk σ T) P := wpn_s 2000 [(38, 25)] [6] h
set_option maxRecDepth 100000 in
theorem g_Af_kindness_25 {d : Nat} {σ : Int → Int → Int} {T : TT} {P : Int → AM → Prop} {l1 : Int} {l2 : Int} {l3 : Int} {l4 : AV} (h : (brK (decide (l3 < (sL 1 (σ 3 0)))) (brK (decide (l2 = (-1))) (wpI d 64 0 [aR 3, aI l1, aI l3, aU, aU] [] (mk σ T) (fun r M' => (wpI (d + 1) 38 75 [aR 2, aI l1, aI l2, aI l3, aI 1] [aI r] M' P))) (wpI d 308 0 [aI l3] [] (mk σ T) (fun r M' => (wpI (d + 1) 38 47 [aR 2, aI l1, aI l2, aI l3, aU] [aI r] M' P)))) (P l2 (mk σ T)))) : wpI (d + 1) 38 25 [aR 2, aI l1, aI l2, aI l3, l4] [] (mk σ T) P := wpn_s 2000 [(38, 25)] [] h
set_option maxRecDepth 100000 in
theorem g_Af_kindness_47 {d : Nat} {σ : Int → Int → Int} {T : TT} {P : Int → AM → Prop} {l1 : Int} {l2 : Int} {l3 : Int} {s0 : Int} (h : (wpI d 308 0 [aI l2] [] (mk σ T) (fun r M' => (wpI (d + 1) 38 51 [aR 2, aI l1, aI l2, aI l3, aU] [aI r, aI s0] M' P)))) : wpI (d + 1) 38 47 [aR 2, aI l1, aI l2, aI l3, aU] [aI s0] (mk σ T) P := wpn_s 2000 [(38, 25)] [] h
set_option maxRecDepth 100000 in
theorem g_Af_kindness_51 {d : Nat} {σ : Int → Int → Int} {T : TT} {P : Int → AM → Prop} {l1 : Int} {l2 : Int} {l3 : Int} {s0 : Int} {s1 : Int} (h : (brK (decide (s0 < s1)) (wpI d 64 0 [aR 3, aI l1, aI l3, aU, aU] [] (mk σ T) (fun r M' => (wpI (d + 1) 38 75 [aR 2, aI l1, aI l2, aI l3, aI 1] [aI r] M' P))) (wpI (d + 1) 38 25 [aR 2, aI l1, aI l2, aI (w32 (l3 + 1)), aI 0] [] (mk σ T) P))) : wpI (d + 1) 38 51 [aR 2, aI l1, aI l2, aI l3, aU] [aI s1, aI s0] (mk σ T) P := wpn_s 2000 [(38, 25)] [] h
set_option maxRecDepth 100000 in
theorem g_Af_kindness_75 {d : Nat} {σ : Int → Int → Int} {T : TT} {P : Int → AM → Prop} {l1 : Int} {l2 : Int} {l3 : Int} {l4 : Int} {s0 : Int} (h : (brK (decide (s0 = 0)) (wpI d 38 25 [aR 2, aI l1, aI l2, aI (w32 (l3 + 1)), aI l4] [] (mk σ T) P) (wpI d 38 25 [aR 2, aI l1, aI l3, aI (w32 (l3 + 1)), aI l4] [] (mk σ T) P))) : wpI d 38 75 [aR 2, aI l1, aI l2, aI l3, aI l4] [aI s0] (mk σ T) P := wpn_s 2000 [(38, 25)] [] h
-- Af_known (II)I
set_option maxRecDepth 100000 in
theorem g_Af_known_0 {d : Nat} {σ : Int → Int → Int} {T : TT} {P : Int → AM → Prop} {l1 : Int} {l2 : Int} (h : (brK (decide (l1 = (-1))) (P 0 (mk (up σ 3 16 0) T)) (brK (decide (l1 < 0)) (P (-2) (mk σ T)) (brK (decide (l1 < (σ 3 0))) (brK (decide (l2 < (-9999))) (P (-2) (mk σ T)) (brK (decide (9999 < l2)) (P (-2) (mk σ T)) (brK (decide ((σ 3 16) < 8)) (brK (decide ((0 : Int) ≤ (σ 3 16) ∧ ((σ 3 16) : Int) < 8)) (brK (decide ((0 : Int) ≤ (σ 3 16) ∧ ((σ 3 16) : Int) < 8)) (P (w32 ((σ 3 16) + 1)) (mk (up (up (up σ 14 (σ 3 16) l1) 15 (σ 3 16) l2) 3 16 (w32 ((σ 3 16) + 1))) T)) False) False) (P (-2) (mk σ T))))) (P (-2) (mk σ T)))))) : wpI (d + 1) 39 0 [aR 2, aI l1, aI l2] [] (mk σ T) P := wpn_s 2000 [] [55] h
-- Af_fit ()I
set_option maxRecDepth 100000 in
theorem g_Af_fit_0 {d : Nat} {σ : Int → Int → Int} {T : TT} {P : Int → AM → Prop} (h : (wpI d 133 0 [aR 55, aU, aU] [] (mk σ T) (fun r M' => (wpI (d + 1) 40 7 [aR 2] [aI r] M' P)))) : wpI (d + 1) 40 0 [aR 2] [] (mk σ T) P := wpn_s 2000 [] [] h
set_option maxRecDepth 100000 in
theorem g_Af_fit_7 {d : Nat} {σ : Int → Int → Int} {T : TT} {P : Int → AM → Prop} {s0 : Int} (h : (P s0 (mk σ T))) : wpI d 40 7 [aR 2] [aI s0] (mk σ T) P := wpn_s 2000 [] [] h
-- Af_smallest (I)I
set_option maxRecDepth 100000 in
theorem g_Af_smallest_0 {d : Nat} {σ : Int → Int → Int} {T : TT} {P : Int → AM → Prop} {l1 : Int} (h : (brK (decide (l1 < 0)) (P (-100) (mk σ T)) (brK (decide (l1 < 4)) (wpI d 135 0 [aR 55, aU, aU, aU] [] (mk σ T) (fun r M' => (wpI (d + 1) 41 16 [aR 2, aI l1] [aI r] M' P))) (P (-100) (mk σ T))))) : wpI (d + 1) 41 0 [aR 2, aI l1] [] (mk σ T) P := wpn_s 2000 [] [] h
set_option maxRecDepth 100000 in
theorem g_Af_smallest_16 {d : Nat} {σ : Int → Int → Int} {T : TT} {P : Int → AM → Prop} {l1 : Int} {s0 : Int} (h : (brK (decide (s0 = 0)) (P (-100) (mk σ T)) (brK (decide ((0 : Int) ≤ l1 ∧ (l1 : Int) < 4)) (P (σ 58 l1) (mk σ T)) False))) : wpI d 41 16 [aR 2, aI l1] [aI s0] (mk σ T) P := wpn_s 2000 [] [] h
-- Af_tells ()I
set_option maxRecDepth 100000 in
theorem g_Af_tells_0 {d : Nat} {σ : Int → Int → Int} {T : TT} {P : Int → AM → Prop} (h : (wpI d 139 0 [aR 55, aU, aU, aU, aU, aU] [] (mk σ T) (fun r M' => (wpI (d + 1) 42 7 [aR 2] [aI r] M' P)))) : wpI (d + 1) 42 0 [aR 2] [] (mk σ T) P := wpn_s 2000 [] [] h
set_option maxRecDepth 100000 in
theorem g_Af_tells_7 {d : Nat} {σ : Int → Int → Int} {T : TT} {P : Int → AM → Prop} {s0 : Int} (h : (P s0 (mk σ T))) : wpI d 42 7 [aR 2] [aI s0] (mk σ T) P := wpn_s 2000 [] [] h
-- Af_should (I)Z
set_option maxRecDepth 100000 in
theorem g_Af_should_0 {d : Nat} {σ : Int → Int → Int} {T : TT} {P : Int → AM → Prop} {l1 : Int} (h : (brK (decide (l1 < 0)) (P 0 (mk σ T)) (brK (decide ((sR l1 (σ 3 0)) = 0)) (P 1 (mk (up σ 3 19 l1) T)) (P 0 (mk σ T))))) : wpI (d + 1) 43 0 [aR 2, aI l1] [] (mk σ T) P := wpn_s 2000 [] [6] h
-- Af_featherForAll (Z)I
set_option maxRecDepth 100000 in
theorem g_Af_featherForAll_0 {d : Nat} {σ : Int → Int → Int} {T : TT} {P : Int → AM → Prop} {l1 : Int} (h : (wpI d 44 2 [aR 2, aI l1, aI 0, aU, aU, aU] [] (mk σ T) P)) : wpI d 44 0 [aR 2, aI l1, aU, aU, aU, aU] [] (mk σ T) P := wpn_s 2000 [(44, 2), (44, 44)] [] h
set_option maxRecDepth 100000 in
theorem g_Af_featherForAll_2 {d : Nat} {σ : Int → Int → Int} {T : TT} {P : Int → AM → Prop} {l1 : Int} {l2 : Int} (h : (brK (decide (l2 < (σ 3 0))) (wpI d 89 0 [aR 39, aI l2] [] (mk σ T) (fun r M' => (wpI (d + 1) 44 26 [aR 2, aI l1, aI l2, aU, aU, aU] [aI r, aI l2, aR 69] M' P))) (wpI d 45 0 [aR 2, aI 0, aU, aU, aU] [] (mk σ T) (fun r M' => (wpI (d + 1) 44 40 [aR 2, aI l1, aI 0, aU, aU, aU] [aI r] M' P))))) : wpI (d + 1) 44 2 [aR 2, aI l1, aI l2, aU, aU, aU] [] (mk σ T) P := wpn_s 2000 [(44, 2), (44, 44)] [] h
set_option maxRecDepth 100000 in
theorem g_Af_featherForAll_26 {d : Nat} {σ : Int → Int → Int} {T : TT} {P : Int → AM → Prop} {l1 : Int} {l2 : Int} {s1 : Int} {s2 : Int} (h : (brK (decide ((0 : Int) ≤ s1 ∧ (s1 : Int) < 6)) (wpI d 44 2 [aR 2, aI l1, aI (w32 (l2 + 1)), aU, aU, aU] [] (mk (up σ 69 s1 s2) T) P) False)) : wpI d 44 26 [aR 2, aI l1, aI l2, aU, aU, aU] [aI s2, aI s1, aR 69] (mk σ T) P := wpn_s 2000 [(44, 2), (44, 44)] [] h
set_option maxRecDepth 100000 in
theorem g_Af_featherForAll_40 {d : Nat} {σ : Int → Int → Int} {T : TT} {P : Int → AM → Prop} {l1 : Int} {l2 : Int} {s0 : Int} (h : (wpI d 44 44 [aR 2, aI l1, aI l2, aI s0, aI 1, aU] [] (mk σ T) P)) : wpI d 44 40 [aR 2, aI l1, aI l2, aU, aU, aU] [aI s0] (mk σ T) P := wpn_s 2000 [(44, 2), (44, 44)] [] h
set_option maxRecDepth 100000 in
theorem g_Af_featherForAll_44 {d : Nat} {σ : Int → Int → Int} {T : TT} {P : Int → AM → Prop} {l1 : Int} {l2 : Int} {l3 : Int} {l4 : Int} {l5 : AV} (h : (brK (decide (999 < l4)) (brK (decide (l1 = 0)) (P l2 (mk σ T)) (P l3 (mk σ T))) (wpI d 45 0 [aR 2, aI l4, aU, aU, aU] [] (mk σ T) (fun r M' => (wpI (d + 1) 44 58 [aR 2, aI l1, aI l2, aI l3, aI l4, aU] [aI r] M' P))))) : wpI (d + 1) 44 44 [aR 2, aI l1, aI l2, aI l3, aI l4, l5] [] (mk σ T) P := wpn_s 2000 [(44, 2), (44, 44)] [] h
set_option maxRecDepth 100000 in
theorem g_Af_featherForAll_58 {d : Nat} {σ : Int → Int → Int} {T : TT} {P : Int → AM → Prop} {l1 : Int} {l2 : Int} {l3 : Int} {l4 : Int} {s0 : Int} (h : (brK (decide (s0 < l3)) (wpI d 44 44 [aR 2, aI l1, aI l4, aI s0, aI (w32 (l4 + 1)), aI s0] [] (mk σ T) P) (wpI d 44 44 [aR 2, aI l1, aI l2, aI l3, aI (w32 (l4 + 1)), aI s0] [] (mk σ T) P))) : wpI d 44 58 [aR 2, aI l1, aI l2, aI l3, aI l4, aU] [aI s0] (mk σ T) P := wpn_s 2000 [(44, 2), (44, 44)] [] h
-- Af_judgedOtherwise (I)I
set_option maxRecDepth 100000 in
theorem g_Af_judgedOtherwise_0 {d : Nat} {σ : Int → Int → Int} {T : TT} {P : Int → AM → Prop} {l1 : Int} (h : (wpI d 45 4 [aR 2, aI l1, aI 0, aI 0, aU] [] (mk σ T) P)) : wpI d 45 0 [aR 2, aI l1, aU, aU, aU] [] (mk σ T) P := wpn_s 2000 [(45, 4)] [] h
set_option maxRecDepth 100000 in
theorem g_Af_judgedOtherwise_4 {d : Nat} {σ : Int → Int → Int} {T : TT} {P : Int → AM → Prop} {l1 : Int} {l2 : Int} {l3 : Int} {l4 : AV} (h : (brK (decide (l3 < (σ 3 0))) (brK (decide ((bA (sR (σ 3 19) l3) 1) = 0)) (brK (decide ((0 : Int) ≤ l3 ∧ (l3 : Int) < 6)) (brK (decide (l1 < (σ 69 l3))) (wpI d 45 4 [aR 2, aI l1, aI l2, aI (w32 (l3 + 1)), aI 0] [] (mk σ T) P) (wpI d 45 4 [aR 2, aI l1, aI (w32 (l2 + 1)), aI (w32 (l3 + 1)), aI 0] [] (mk σ T) P)) False) (brK (decide ((0 : Int) ≤ l3 ∧ (l3 : Int) < 6)) (brK (decide (l1 < (σ 69 l3))) (wpI d 45 4 [aR 2, aI l1, aI (w32 (l2 + 1)), aI (w32 (l3 + 1)), aI 1] [] (mk σ T) P) (wpI d 45 4 [aR 2, aI l1, aI l2, aI (w32 (l3 + 1)), aI 1] [] (mk σ T) P)) False)) (P l2 (mk σ T)))) : wpI d 45 4 [aR 2, aI l1, aI l2, aI l3, l4] [] (mk σ T) P := wpn_s 2000 [(45, 4)] [] h
-- Af_odds (IIZ)J
set_option maxRecDepth 100000 in
theorem g_Af_odds_0 {d : Nat} {σ : Int → Int → Int} {T : TT} {P : Int → AM → Prop} {l1 : Int} {l2 : Int} {l3 : Int} (h : (brK (decide (l1 < 0)) (P (-1) (mk σ T)) (brK (decide (10 < l1)) (P (-1) (mk σ T)) (brK (decide (l2 < 1)) (P (-1) (mk σ T)) (brK (decide (15 < l2)) (P (-1) (mk σ T)) (brK (decide ((Int.tmod l2 2) = 0)) (P (-1) (mk σ T)) (wpL d 47 0 [aI l1, aI l2, aU, aU, aU, aU, aU] [] (mk σ T) (fun r M' => (wpL (d + 1) 46 35 [aR 2, aI l1, aI l2, aI l3, aU, aU, aU, aU, aU, aU] [aL r] M' P))))))))) : wpL (d + 1) 46 0 [aR 2, aI l1, aI l2, aI l3, aU, aU, aU, aU, aU, aU] [] (mk σ T) P := wpn_s 2000 [] [3] h
set_option maxRecDepth 100000 in
theorem g_Af_odds_35 {d : Nat} {σ : Int → Int → Int} {T : TT} {P : Int → AM → Prop} {l1 : Int} {l2 : Int} {l3 : Int} {s0 : Int} (h : (wpL d 48 0 [aI 10, aI l2, aU, aU, aU] [] (mk σ T) (fun r M' => (wpL (d + 1) 46 43 [aR 2, aI l1, aI l2, aI l3, aL s0, a2, aU, aU, aU, aU] [aL r] M' P)))) : wpL (d + 1) 46 35 [aR 2, aI l1, aI l2, aI l3, aU, aU, aU, aU, aU, aU] [aL s0] (mk σ T) P := wpn_s 2000 [] [] h
set_option maxRecDepth 100000 in
theorem g_Af_odds_43 {d : Nat} {σ : Int → Int → Int} {T : TT} {P : Int → AM → Prop} {l1 : Int} {l2 : Int} {l3 : Int} {l4 : Int} {s0 : Int} (h : (wpL d 49 0 [aL s0, a2, aL l4, a2, aU, aU, aU, aU, aU, aU, aU] [] (mk σ T) (fun r M' => (wpL (d + 1) 46 52 [aR 2, aI l1, aI l2, aI l3, aL l4, a2, aL s0, a2, aU, aU] [aL r] M' P)))) : wpL (d + 1) 46 43 [aR 2, aI l1, aI l2, aI l3, aL l4, a2, aU, aU, aU, aU] [aL s0] (mk σ T) P := wpn_s 2000 [] [] h
set_option maxRecDepth 100000 in
theorem g_Af_odds_52 {d : Nat} {σ : Int → Int → Int} {T : TT} {P : Int → AM → Prop} {l1 : Int} {l2 : Int} {l3 : Int} {l4 : Int} {l6 : Int} {s0 : Int} (h : (brK (decide ((cmpL s0 1) < 0)) (P (-1) (mk σ T)) (brK (decide (l3 = 0)) (brK (decide (s0 = 0)) False (P (w64 (Int.tdiv l4 s0)) (mk σ T))) (brK (decide (s0 = 0)) False (P (w64 (Int.tdiv l6 s0)) (mk σ T)))))) : wpL d 46 52 [aR 2, aI l1, aI l2, aI l3, aL l4, a2, aL l6, a2, aU, aU] [aL s0] (mk σ T) P := wpn_s 2000 [] [] h
-- Af_rightOnes (II)J
set_option maxRecDepth 100000 in
theorem g_Af_rightOnes_0 {d : Nat} {σ : Int → Int → Int} {T : TT} {P : Int → AM → Prop} {l0 : Int} {l1 : Int} (h : (wpL d 47 8 [aI l0, aI l1, aL 0, a2, aL 1, a2, aI 0] [] (mk σ T) P)) : wpL d 47 0 [aI l0, aI l1, aU, aU, aU, aU, aU] [] (mk σ T) P := wpn_s 2000 [(47, 8)] [] h
set_option maxRecDepth 100000 in
theorem g_Af_rightOnes_8 {d : Nat} {σ : Int → Int → Int} {T : TT} {P : Int → AM → Prop} {l0 : Int} {l1 : Int} {l2 : Int} {l4 : Int} {l6 : Int} (h : (brK (decide (l1 < l6)) (P l2 (mk σ T)) (brK (decide (l1 < (w32 (l6 * 2)))) (wpL d 48 0 [aI (w32 (10 - l0)), aI l6, aU, aU, aU] [] (mk σ T) (fun r M' => (wpL (d + 1) 47 34 [aI l0, aI l1, aL l2, a2, aL l4, a2, aI l6] [aL r, aL l4, aL l2] M' P))) (brK (decide ((w32 (l6 + 1)) = 0)) False (wpL (d + 1) 47 8 [aI l0, aI l1, aL l2, a2, aL (w64 (Int.tdiv (w64 (l4 * (w32 (l1 - l6)))) (w32 (l6 + 1)))), a2, aI (w32 (l6 + 1))] [] (mk σ T) P))))) : wpL (d + 1) 47 8 [aI l0, aI l1, aL l2, a2, aL l4, a2, aI l6] [] (mk σ T) P := wpn_s 2000 [(47, 8)] [] h
set_option maxRecDepth 100000 in
theorem g_Af_rightOnes_34 {d : Nat} {σ : Int → Int → Int} {T : TT} {P : Int → AM → Prop} {l0 : Int} {l1 : Int} {l2 : Int} {l4 : Int} {l6 : Int} {s0 : Int} {s1 : Int} {s2 : Int} (h : (wpL d 48 0 [aI l0, aI (w32 (l1 - l6)), aU, aU, aU] [] (mk σ T) (fun r M' => (wpL (d + 1) 47 43 [aI l0, aI l1, aL l2, a2, aL l4, a2, aI l6] [aL r, aL (w64 (s1 * s2)), aL s0] M' P)))) : wpL (d + 1) 47 34 [aI l0, aI l1, aL l2, a2, aL l4, a2, aI l6] [aL s2, aL s1, aL s0] (mk σ T) P := wpn_s 2000 [(47, 8)] [] h
set_option maxRecDepth 100000 in
theorem g_Af_rightOnes_43 {d : Nat} {σ : Int → Int → Int} {T : TT} {P : Int → AM → Prop} {l0 : Int} {l1 : Int} {l2 : Int} {l4 : Int} {l6 : Int} {s0 : Int} {s1 : Int} {s2 : Int} (h : (brK (decide ((w32 (l6 + 1)) = 0)) False (wpL d 47 8 [aI l0, aI l1, aL (w64 (s0 + (w64 (s1 * s2)))), a2, aL (w64 (Int.tdiv (w64 (l4 * (w32 (l1 - l6)))) (w32 (l6 + 1)))), a2, aI (w32 (l6 + 1))] [] (mk σ T) P))) : wpL d 47 43 [aI l0, aI l1, aL l2, a2, aL l4, a2, aI l6] [aL s2, aL s1, aL s0] (mk σ T) P := wpn_s 2000 [(47, 8)] [] h
-- Af_power (II)J
set_option maxRecDepth 100000 in
theorem g_Af_power_0 {d : Nat} {σ : Int → Int → Int} {T : TT} {P : Int → AM → Prop} {l0 : Int} {l1 : Int} (h : (wpL d 48 5 [aI l0, aI l1, aL 1, a2, aI 0] [] (mk σ T) P)) : wpL d 48 0 [aI l0, aI l1, aU, aU, aU] [] (mk σ T) P := wpn_s 2000 [(48, 5)] [] h
set_option maxRecDepth 100000 in
theorem g_Af_power_5 {d : Nat} {σ : Int → Int → Int} {T : TT} {P : Int → AM → Prop} {l0 : Int} {l1 : Int} {l2 : Int} {l4 : Int} (h : (brK (decide (l4 < l1)) (wpL d 48 5 [aI l0, aI l1, aL (w64 (l2 * l0)), a2, aI (w32 (l4 + 1))] [] (mk σ T) P) (P l2 (mk σ T)))) : wpL d 48 5 [aI l0, aI l1, aL l2, a2, aI l4] [] (mk σ T) P := wpn_s 2000 [(48, 5)] [] h
-- Af_commonDivisor (JJ)J
set_option maxRecDepth 100000 in
theorem g_Af_commonDivisor_0 {d : Nat} {σ : Int → Int → Int} {T : TT} {P : Int → AM → Prop} {l0 : Int} {l2 : Int} (h : (wpL d 49 9 [aL l0, a2, aL l2, a2, aL l0, a2, aL l2, a2, aI 0, aU, aU] [] (mk σ T) P)) : wpL d 49 0 [aL l0, a2, aL l2, a2, aU, aU, aU, aU, aU, aU, aU] [] (mk σ T) P := wpn_s 2000 [(49, 9)] [] h
set_option maxRecDepth 100000 in
theorem g_Af_commonDivisor_9 {d : Nat} {σ : Int → Int → Int} {T : TT} {P : Int → AM → Prop} {l0 : Int} {l2 : Int} {l4 : Int} {l6 : Int} {l8 : Int} {l9 : AV} {l10 : AV} (h : (brK (decide (l8 < 200)) (brK (decide ((cmpL l6 0) = 0)) (P l4 (mk σ T)) (brK (decide (l6 = 0)) False (wpL d 49 9 [aL l0, a2, aL l2, a2, aL l6, a2, aL (Int.tmod l4 l6), a2, aI (w32 (l8 + 1)), aL (Int.tmod l4 l6), a2] [] (mk σ T) P))) (P l4 (mk σ T)))) : wpL d 49 9 [aL l0, a2, aL l2, a2, aL l4, a2, aL l6, a2, aI l8, l9, l10] [] (mk σ T) P := wpn_s 2000 [(49, 9)] [] h
-- Af_often (II)I
set_option maxRecDepth 100000 in
theorem g_Af_often_0 {d : Nat} {σ : Int → Int → Int} {T : TT} {P : Int → AM → Prop} {l1 : Int} {l2 : Int} (h : (brK (decide (l1 < 0)) (P (-1) (mk σ T)) (brK (decide (10 < l1)) (P (-1) (mk σ T)) (brK (decide (l2 < 1)) (P (-1) (mk σ T)) (brK (decide (100 < l2)) (P (-1) (mk σ T)) (wpI (d + 1) 50 24 [aR 2, aI l1, aI l2, aI 1] [] (mk σ T) P)))))) : wpI (d + 1) 50 0 [aR 2, aI l1, aI l2, aU] [] (mk σ T) P := wpn_s 2000 [(50, 24)] [3] h
set_option maxRecDepth 100000 in
theorem g_Af_often_24 {d : Nat} {σ : Int → Int → Int} {T : TT} {P : Int → AM → Prop} {l1 : Int} {l2 : Int} {l3 : Int} (h : (brK (decide (15 < l3)) (P (-1) (mk σ T)) (wpL d 47 0 [aI l1, aI l3, aU, aU, aU, aU, aU] [] (mk σ T) (fun r M' => (wpI (d + 1) 50 35 [aR 2, aI l1, aI l2, aI l3] [aL r] M' P))))) : wpI (d + 1) 50 24 [aR 2, aI l1, aI l2, aI l3] [] (mk σ T) P := wpn_s 2000 [(50, 24)] [] h
set_option maxRecDepth 100000 in
theorem g_Af_often_35 {d : Nat} {σ : Int → Int → Int} {T : TT} {P : Int → AM → Prop} {l1 : Int} {l2 : Int} {l3 : Int} {s0 : Int} (h : (wpL d 48 0 [aI 10, aI l3, aU, aU, aU] [] (mk σ T) (fun r M' => (wpI (d + 1) 50 45 [aR 2, aI l1, aI l2, aI l3] [aL r, aL (w64 (s0 * 100))] M' P)))) : wpI (d + 1) 50 35 [aR 2, aI l1, aI l2, aI l3] [aL s0] (mk σ T) P := wpn_s 2000 [(50, 24)] [] h
set_option maxRecDepth 100000 in
theorem g_Af_often_45 {d : Nat} {σ : Int → Int → Int} {T : TT} {P : Int → AM → Prop} {l1 : Int} {l2 : Int} {l3 : Int} {s0 : Int} {s1 : Int} (h : (brK (decide ((cmpL s0 (w64 (s1 * l2))) < 0)) (wpI d 50 24 [aR 2, aI l1, aI l2, aI (w32 (l3 + 2))] [] (mk σ T) P) (P l3 (mk σ T)))) : wpI d 50 45 [aR 2, aI l1, aI l2, aI l3] [aL s1, aL s0] (mk σ T) P := wpn_s 2000 [(50, 24)] [] h
-- Af_image ()I
set_option maxRecDepth 100000 in
theorem g_Af_image_0 {d : Nat} {σ : Int → Int → Int} {T : TT} {P : Int → AM → Prop} (h : (wpV d 65 0 [aR 21, aR 3, aU] [] (mk σ T) (fun M' => (wpI (d + 1) 51 11 [aR 2] [] M' P)))) : wpI (d + 1) 51 0 [aR 2] [] (mk σ T) P := wpn_s 2000 [] [] h
set_option maxRecDepth 100000 in
theorem g_Af_image_11 {d : Nat} {σ : Int → Int → Int} {T : TT} {P : Int → AM → Prop} (h : (wpV d 72 0 [aR 34, aR 16] [] (mk σ T) (fun M' => (wpI (d + 1) 51 22 [aR 2] [] M' P)))) : wpI (d + 1) 51 11 [aR 2] [] (mk σ T) P := wpn_s 2000 [] [] h
set_option maxRecDepth 100000 in
theorem g_Af_image_22 {d : Nat} {σ : Int → Int → Int} {T : TT} {P : Int → AM → Prop} (h : (P (σ 16 6) (mk (cp (up (up σ 37 0 (σ 19 0)) 37 1 (σ 19 1)) 20 0 38 0 5850) T))) : wpI (d + 1) 51 22 [aR 2] [] (mk σ T) P := wpn_s 2000 [] [76] h
-- Af_back ()I
set_option maxRecDepth 100000 in
theorem g_Af_back_0 {d : Nat} {σ : Int → Int → Int} {T : TT} {P : Int → AM → Prop} (h : (wpV d 65 0 [aR 3, aR 21, aU] [] (mk σ T) (fun M' => (wpI (d + 1) 52 11 [aR 2] [] M' P)))) : wpI (d + 1) 52 0 [aR 2] [] (mk σ T) P := wpn_s 2000 [] [] h
set_option maxRecDepth 100000 in
theorem g_Af_back_11 {d : Nat} {σ : Int → Int → Int} {T : TT} {P : Int → AM → Prop} (h : (wpV d 72 0 [aR 16, aR 34] [] (mk σ T) (fun M' => (wpI (d + 1) 52 22 [aR 2] [] M' P)))) : wpI (d + 1) 52 11 [aR 2] [] (mk σ T) P := wpn_s 2000 [] [] h
set_option maxRecDepth 100000 in
theorem g_Af_back_22 {d : Nat} {σ : Int → Int → Int} {T : TT} {P : Int → AM → Prop} (h : (P (σ 16 6) (mk (cp (up (up σ 19 0 (σ 37 0)) 19 1 (σ 37 1)) 38 0 20 0 5850) T))) : wpI (d + 1) 52 22 [aR 2] [] (mk σ T) P := wpn_s 2000 [] [76] h
-- Af_about (I)I
set_option maxRecDepth 100000 in
theorem g_Af_about_0 {d : Nat} {σ : Int → Int → Int} {T : TT} {P : Int → AM → Prop} {l1 : Int} (h : (brK (decide (l1 = 0)) (P (σ 3 0) (mk σ T)) (brK (decide (l1 = 1)) (P (σ 3 2) (mk σ T)) (brK (decide (l1 = 2)) (P (σ 3 9) (mk σ T)) (brK (decide (l1 = 3)) (P (σ 3 11) (mk σ T)) (brK (decide (l1 = 4)) (P (σ 16 6) (mk σ T)) (brK (decide (l1 = 5)) (P (σ 16 7) (mk σ T)) (brK (decide (l1 = 6)) (P (σ 3 13) (mk σ T)) (brK (decide (l1 = 7)) (P (σ 3 15) (mk σ T)) (brK (decide (l1 = 8)) (P (σ 19 0) (mk σ T)) (brK (decide (l1 = 9)) (P (σ 3 16) (mk σ T)) (brK (decide (l1 = 10)) (P (σ 3 19) (mk σ T)) (brK (decide (l1 = 11)) (P (σ 2 13) (mk σ T)) (P (-2) (mk σ T))))))))))))))) : wpI d 53 0 [aR 2, aI l1] [] (mk σ T) P := wpn_s 2000 [] [] h
