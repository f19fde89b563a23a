/-! what each stretch of the code does (laid by a program; each is checked by unfolding) -/
set_option maxRecDepth 100000 in
theorem sg_X4_size_0_7 (S : PS) (I : Nat → Nat → Int)  (Q : PV1 → Prop) : Wp 57 (0, [zA 7], [], zH S I) Q ↔ (Q (some (zI (I 7 2)), zH S I)) := (WpK_iff [] 3 57 _ Q).symm
set_option maxRecDepth 100000 in
theorem sg_X4_empty_0_7 (S : PS) (I : Nat → Nat → Int) (x1 : Int) (Q : PV1 → Prop) : Wp 56 (0, [zA 7, zI x1], [], zH S I) Q ↔ (Wp 171 (0, [zA 8, zI ((-1)), zU, zU], [], zH S I) (fun w => Wp 56 (8, [zA 7, zI x1], w.1.toList ++ [], w.2) Q)) := (WpK_iff [8] 4 56 _ Q).symm
set_option maxRecDepth 100000 in
theorem sg_X4_empty_8_7 (S : PS) (I : Nat → Nat → Int) (x1 : Int) (Q : PV1 → Prop) : Wp 56 (8, [zA 7, zI x1], [], zH S I) Q ↔ (Q (none, zH S (zs2 I 7 2 x1))) := (WpK_iff [8] 4 56 _ Q).symm
set_option maxRecDepth 100000 in
theorem sg_X4_empty_0_9 (S : PS) (I : Nat → Nat → Int) (x1 : Int) (Q : PV1 → Prop) : Wp 56 (0, [zA 9, zI x1], [], zH S I) Q ↔ (Wp 171 (0, [zA 10, zI ((-1)), zU, zU], [], zH S I) (fun w => Wp 56 (8, [zA 9, zI x1], w.1.toList ++ [], w.2) Q)) := (WpK_iff [8] 4 56 _ Q).symm
set_option maxRecDepth 100000 in
theorem sg_X4_empty_8_9 (S : PS) (I : Nat → Nat → Int) (x1 : Int) (Q : PV1 → Prop) : Wp 56 (8, [zA 9, zI x1], [], zH S I) Q ↔ (Q (none, zH S (zs2 I 9 2 x1))) := (WpK_iff [8] 4 56 _ Q).symm
set_option maxRecDepth 100000 in
theorem sg_X4_placeOf_0_7 (S : PS) (I : Nat → Nat → Int) (x1 : Int) (w2 : PV) (Q : PV1 → Prop) : Wp 60 (0, [zA 7, zI x1, w2], [], zH S I) Q ↔ (Wp 60 (2, [zA 7, zI x1, zI 0], [], zH S I) Q) := (WpK_iff [2] 2 60 _ Q).symm
set_option maxRecDepth 100000 in
theorem sg_X4_placeOf_2_7 (S : PS) (I : Nat → Nat → Int) (x1 : Int) (x2 : Int) (Q : PV1 → Prop) : Wp 60 (2, [zA 7, zI x1, zI x2], [], zH S I) Q ↔ (cond (decide (x2 < 6)) (cond (decide (x1 = (-1))) (Wp 60 (2, [zA 7, zI x1, zI (zad x2 1)], [], zH S I) Q) (cond (zib x2 6) (cond (decide (I 8 (x2 : Int).toNat = x1)) (Q (some (zI x2), zH S I)) (Wp 60 (2, [zA 7, zI x1, zI (zad x2 1)], [], zH S I) Q)) False)) (Q (some (zI ((-1))), zH S I))) := (WpK_iff [2] 16 60 _ Q).symm
set_option maxRecDepth 100000 in
theorem sg_X4_placeOf_0_9 (S : PS) (I : Nat → Nat → Int) (x1 : Int) (w2 : PV) (Q : PV1 → Prop) : Wp 60 (0, [zA 9, zI x1, w2], [], zH S I) Q ↔ (Wp 60 (2, [zA 9, zI x1, zI 0], [], zH S I) Q) := (WpK_iff [2] 2 60 _ Q).symm
set_option maxRecDepth 100000 in
theorem sg_X4_placeOf_2_9 (S : PS) (I : Nat → Nat → Int) (x1 : Int) (x2 : Int) (Q : PV1 → Prop) : Wp 60 (2, [zA 9, zI x1, zI x2], [], zH S I) Q ↔ (cond (decide (x2 < 6)) (cond (decide (x1 = (-1))) (Wp 60 (2, [zA 9, zI x1, zI (zad x2 1)], [], zH S I) Q) (cond (zib x2 6) (cond (decide (I 10 (x2 : Int).toNat = x1)) (Q (some (zI x2), zH S I)) (Wp 60 (2, [zA 9, zI x1, zI (zad x2 1)], [], zH S I) Q)) False)) (Q (some (zI ((-1))), zH S I))) := (WpK_iff [2] 16 60 _ Q).symm
set_option maxRecDepth 100000 in
theorem sg_X4_hasRule_0_7 (S : PS) (I : Nat → Nat → Int) (x1 : Int) (Q : PV1 → Prop) : Wp 61 (0, [zA 7, zI x1], [], zH S I) Q ↔ (Wp 60 (0, [zA 7, zI x1, zU], [], zH S I) (fun w => Wp 61 (5, [zA 7, zI x1], w.1.toList ++ [], w.2) Q)) := (WpK_iff [5] 3 61 _ Q).symm
set_option maxRecDepth 100000 in
theorem sg_X4_hasRule_5 (S : PS) (I : Nat → Nat → Int) (w0 : PV) (w1 : PV) (y0 : Int) (Q : PV1 → Prop) : Wp 61 (5, [w0, w1], [zI y0], zH S I) Q ↔ (cond (decide (y0 = (-1))) (cond (zbb 0) (Q (some (zI 0), zH S I)) False) (cond (zbb 1) (Q (some (zI 1), zH S I)) False)) := (WpK_iff [5] 5 61 _ Q).symm
set_option maxRecDepth 100000 in
theorem sg_X4_hasRule_0_9 (S : PS) (I : Nat → Nat → Int) (x1 : Int) (Q : PV1 → Prop) : Wp 61 (0, [zA 9, zI x1], [], zH S I) Q ↔ (Wp 60 (0, [zA 9, zI x1, zU], [], zH S I) (fun w => Wp 61 (5, [zA 9, zI x1], w.1.toList ++ [], w.2) Q)) := (WpK_iff [5] 3 61 _ Q).symm
set_option maxRecDepth 100000 in
theorem sg_X4_carryOut_0_7_25 (S : PS) (I : Nat → Nat → Int) (w2 : PV) (Q : PV1 → Prop) : Wp 66 (0, [zA 7, zA 25, w2], [], zH S I) Q ↔ (Wp 66 (2, [zA 7, zA 25, zI 0], [], zH S I) Q) := (WpK_iff [2, 13, 22, 27, 30] 2 66 _ Q).symm
set_option maxRecDepth 100000 in
theorem sg_X4_carryOut_2_7_25 (S : PS) (I : Nat → Nat → Int) (x2 : Int) (Q : PV1 → Prop) : Wp 66 (2, [zA 7, zA 25, zI x2], [], zH S I) Q ↔ (cond (decide (x2 < 16)) (Wp 15 (0, [zA 25], [], zH S I) (fun w => Wp 66 (13, [zA 7, zA 25, zI x2], w.1.toList ++ [zI x2], w.2) Q)) (Q (none, zH S I))) := (WpK_iff [2, 13, 22, 27, 30] 6 66 _ Q).symm
set_option maxRecDepth 100000 in
theorem sg_X4_carryOut_13_7_25 (S : PS) (I : Nat → Nat → Int) (x2 : Int) (y0 : Int) (y1 : Int) (Q : PV1 → Prop) : Wp 66 (13, [zA 7, zA 25, zI x2], [zI y1, zI y0], zH S I) Q ↔ (cond (decide (y0 < y1)) (Wp 17 (0, [zA 25, zI x2], [], zH S I) (fun w => Wp 66 (22, [zA 7, zA 25, zI x2], w.1.toList ++ [zA 7], w.2) Q)) (Q (none, zH S I))) := (WpK_iff [2, 13, 22, 27, 30] 5 66 _ Q).symm
set_option maxRecDepth 100000 in
theorem sg_X4_carryOut_22_7_25_7 (S : PS) (I : Nat → Nat → Int) (x2 : Int) (y1 : Int) (Q : PV1 → Prop) : Wp 66 (22, [zA 7, zA 25, zI x2], [zI y1, zA 7], zH S I) Q ↔ (Wp 18 (0, [zA 25, zI x2], [], zH S I) (fun w => Wp 66 (27, [zA 7, zA 25, zI x2], w.1.toList ++ [zI y1, zA 7], w.2) Q)) := (WpK_iff [2, 13, 22, 27, 30] 3 66 _ Q).symm
set_option maxRecDepth 100000 in
theorem sg_X4_carryOut_27_7_25_7 (S : PS) (I : Nat → Nat → Int) (x2 : Int) (y1 : Int) (y2 : Int) (Q : PV1 → Prop) : Wp 66 (27, [zA 7, zA 25, zI x2], [zI y2, zI y1, zA 7], zH S I) Q ↔ (Wp 65 (0, [zA 7, zI y1, zI y2], [], zH S I) (fun w => Wp 66 (30, [zA 7, zA 25, zI x2], w.1.toList ++ [], w.2) Q)) := (WpK_iff [2, 13, 22, 27, 30] 1 66 _ Q).symm
set_option maxRecDepth 100000 in
theorem sg_X4_carryOut_30_7_25 (S : PS) (I : Nat → Nat → Int) (x2 : Int) (Q : PV1 → Prop) : Wp 66 (30, [zA 7, zA 25, zI x2], [], zH S I) Q ↔ (Wp 66 (2, [zA 7, zA 25, zI (zad x2 1)], [], zH S I) Q) := (WpK_iff [2, 13, 22, 27, 30] 2 66 _ Q).symm
set_option maxRecDepth 100000 in
theorem sg_X4_carryOut_0_9_25 (S : PS) (I : Nat → Nat → Int) (w2 : PV) (Q : PV1 → Prop) : Wp 66 (0, [zA 9, zA 25, w2], [], zH S I) Q ↔ (Wp 66 (2, [zA 9, zA 25, zI 0], [], zH S I) Q) := (WpK_iff [2, 13, 22, 27, 30] 2 66 _ Q).symm
set_option maxRecDepth 100000 in
theorem sg_X4_carryOut_2_9_25 (S : PS) (I : Nat → Nat → Int) (x2 : Int) (Q : PV1 → Prop) : Wp 66 (2, [zA 9, zA 25, zI x2], [], zH S I) Q ↔ (cond (decide (x2 < 16)) (Wp 15 (0, [zA 25], [], zH S I) (fun w => Wp 66 (13, [zA 9, zA 25, zI x2], w.1.toList ++ [zI x2], w.2) Q)) (Q (none, zH S I))) := (WpK_iff [2, 13, 22, 27, 30] 6 66 _ Q).symm
set_option maxRecDepth 100000 in
theorem sg_X4_carryOut_13_9_25 (S : PS) (I : Nat → Nat → Int) (x2 : Int) (y0 : Int) (y1 : Int) (Q : PV1 → Prop) : Wp 66 (13, [zA 9, zA 25, zI x2], [zI y1, zI y0], zH S I) Q ↔ (cond (decide (y0 < y1)) (Wp 17 (0, [zA 25, zI x2], [], zH S I) (fun w => Wp 66 (22, [zA 9, zA 25, zI x2], w.1.toList ++ [zA 9], w.2) Q)) (Q (none, zH S I))) := (WpK_iff [2, 13, 22, 27, 30] 5 66 _ Q).symm
set_option maxRecDepth 100000 in
theorem sg_X4_carryOut_22_9_25_9 (S : PS) (I : Nat → Nat → Int) (x2 : Int) (y1 : Int) (Q : PV1 → Prop) : Wp 66 (22, [zA 9, zA 25, zI x2], [zI y1, zA 9], zH S I) Q ↔ (Wp 18 (0, [zA 25, zI x2], [], zH S I) (fun w => Wp 66 (27, [zA 9, zA 25, zI x2], w.1.toList ++ [zI y1, zA 9], w.2) Q)) := (WpK_iff [2, 13, 22, 27, 30] 3 66 _ Q).symm
set_option maxRecDepth 100000 in
theorem sg_X4_carryOut_27_9_25_9 (S : PS) (I : Nat → Nat → Int) (x2 : Int) (y1 : Int) (y2 : Int) (Q : PV1 → Prop) : Wp 66 (27, [zA 9, zA 25, zI x2], [zI y2, zI y1, zA 9], zH S I) Q ↔ (Wp 65 (0, [zA 9, zI y1, zI y2], [], zH S I) (fun w => Wp 66 (30, [zA 9, zA 25, zI x2], w.1.toList ++ [], w.2) Q)) := (WpK_iff [2, 13, 22, 27, 30] 1 66 _ Q).symm
set_option maxRecDepth 100000 in
theorem sg_X4_carryOut_30_9_25 (S : PS) (I : Nat → Nat → Int) (x2 : Int) (Q : PV1 → Prop) : Wp 66 (30, [zA 9, zA 25, zI x2], [], zH S I) Q ↔ (Wp 66 (2, [zA 9, zA 25, zI (zad x2 1)], [], zH S I) Q) := (WpK_iff [2, 13, 22, 27, 30] 2 66 _ Q).symm
set_option maxRecDepth 100000 in
theorem sg_X4_makeFree_0_7 (S : PS) (I : Nat → Nat → Int) (x1 : Int) (Q : PV1 → Prop) : Wp 64 (0, [zA 7, zI x1], [], zH S I) Q ↔ (Wp 58 (0, [zA 7, zI x1], [], zH S I) (fun w => Wp 64 (5, [zA 7, zI x1], w.1.toList ++ [], w.2) Q)) := (WpK_iff [5] 3 64 _ Q).symm
set_option maxRecDepth 100000 in
theorem sg_X4_makeFree_5_7 (S : PS) (I : Nat → Nat → Int) (x1 : Int) (y0 : Int) (Q : PV1 → Prop) : Wp 64 (5, [zA 7, zI x1], [zI y0], zH S I) Q ↔ (cond (decide (y0 = 0)) (Q (none, zH S I)) (cond (zib x1 6) (Q (none, zH S (zs2 I 8 (x1 : Int).toNat ((-1))))) False)) := (WpK_iff [5] 7 64 _ Q).symm
set_option maxRecDepth 100000 in
theorem sg_X4_makeFree_0_9 (S : PS) (I : Nat → Nat → Int) (x1 : Int) (Q : PV1 → Prop) : Wp 64 (0, [zA 9, zI x1], [], zH S I) Q ↔ (Wp 58 (0, [zA 9, zI x1], [], zH S I) (fun w => Wp 64 (5, [zA 9, zI x1], w.1.toList ++ [], w.2) Q)) := (WpK_iff [5] 3 64 _ Q).symm
set_option maxRecDepth 100000 in
theorem sg_X4_makeFree_5_9 (S : PS) (I : Nat → Nat → Int) (x1 : Int) (y0 : Int) (Q : PV1 → Prop) : Wp 64 (5, [zA 9, zI x1], [zI y0], zH S I) Q ↔ (cond (decide (y0 = 0)) (Q (none, zH S I)) (cond (zib x1 6) (Q (none, zH S (zs2 I 10 (x1 : Int).toNat ((-1))))) False)) := (WpK_iff [5] 7 64 _ Q).symm
set_option maxRecDepth 100000 in
theorem sg_X4_ruleAt_0_7 (S : PS) (I : Nat → Nat → Int) (x1 : Int) (Q : PV1 → Prop) : Wp 59 (0, [zA 7, zI x1], [], zH S I) Q ↔ (Wp 58 (0, [zA 7, zI x1], [], zH S I) (fun w => Wp 59 (5, [zA 7, zI x1], w.1.toList ++ [], w.2) Q)) := (WpK_iff [5] 3 59 _ Q).symm
set_option maxRecDepth 100000 in
theorem sg_X4_ruleAt_5_7 (S : PS) (I : Nat → Nat → Int) (x1 : Int) (y0 : Int) (Q : PV1 → Prop) : Wp 59 (5, [zA 7, zI x1], [zI y0], zH S I) Q ↔ (cond (decide (y0 = 0)) (Q (some (zI ((-1))), zH S I)) (cond (zib x1 6) (Q (some (zI (I 8 (x1 : Int).toNat)), zH S I)) False)) := (WpK_iff [5] 7 59 _ Q).symm
set_option maxRecDepth 100000 in
theorem sg_X4_size_0_9 (S : PS) (I : Nat → Nat → Int)  (Q : PV1 → Prop) : Wp 57 (0, [zA 9], [], zH S I) Q ↔ (Q (some (zI (I 9 2)), zH S I)) := (WpK_iff [] 3 57 _ Q).symm
set_option maxRecDepth 100000 in
theorem sg_X4_ruleAt_0_9 (S : PS) (I : Nat → Nat → Int) (x1 : Int) (Q : PV1 → Prop) : Wp 59 (0, [zA 9, zI x1], [], zH S I) Q ↔ (Wp 58 (0, [zA 9, zI x1], [], zH S I) (fun w => Wp 59 (5, [zA 9, zI x1], w.1.toList ++ [], w.2) Q)) := (WpK_iff [5] 3 59 _ Q).symm
set_option maxRecDepth 100000 in
theorem sg_X4_ruleAt_5_9 (S : PS) (I : Nat → Nat → Int) (x1 : Int) (y0 : Int) (Q : PV1 → Prop) : Wp 59 (5, [zA 9, zI x1], [zI y0], zH S I) Q ↔ (cond (decide (y0 = 0)) (Q (some (zI ((-1))), zH S I)) (cond (zib x1 6) (Q (some (zI (I 10 (x1 : Int).toNat)), zH S I)) False)) := (WpK_iff [5] 7 59 _ Q).symm
set_option maxRecDepth 100000 in
theorem sg_X4_actFor_0_7 (S : PS) (I : Nat → Nat → Int) (x1 : Int) (w2 : PV) (Q : PV1 → Prop) : Wp 67 (0, [zA 7, zI x1, w2], [], zH S I) Q ↔ (Wp 67 (2, [zA 7, zI x1, zI 0], [], zH S I) Q) := (WpK_iff [2, 25, 41] 2 67 _ Q).symm
set_option maxRecDepth 100000 in
theorem sg_X4_actFor_2_7 (S : PS) (I : Nat → Nat → Int) (x1 : Int) (x2 : Int) (Q : PV1 → Prop) : Wp 67 (2, [zA 7, zI x1, zI x2], [], zH S I) Q ↔ (cond (decide (x2 < 6)) (cond (zib x2 6) (Wp 34 (0, [zA 1, zI (I 8 (x2 : Int).toNat), zI x1], [], zH S I) (fun w => Wp 67 (25, [zA 7, zI x1, zI x2], w.1.toList ++ [], w.2) Q)) False) (Q (some (zI ((-1))), zH S I))) := (WpK_iff [2, 25, 41] 13 67 _ Q).symm
set_option maxRecDepth 100000 in
theorem sg_X4_actFor_25_7 (S : PS) (I : Nat → Nat → Int) (x1 : Int) (x2 : Int) (y0 : Int) (Q : PV1 → Prop) : Wp 67 (25, [zA 7, zI x1, zI x2], [zI y0], zH S I) Q ↔ (cond (decide (y0 = 0)) (Wp 67 (2, [zA 7, zI x1, zI (zad x2 1)], [], zH S I) Q) (cond (zib x2 6) (Wp 33 (0, [zA 1, zI (I 8 (x2 : Int).toNat)], [], zH S I) (fun w => Wp 67 (41, [zA 7, zI x1, zI x2], w.1.toList ++ [], w.2) Q)) False)) := (WpK_iff [2, 25, 41] 8 67 _ Q).symm
set_option maxRecDepth 100000 in
theorem sg_X4_actFor_41 (S : PS) (I : Nat → Nat → Int) (w0 : PV) (w1 : PV) (w2 : PV) (y0 : Int) (Q : PV1 → Prop) : Wp 67 (41, [w0, w1, w2], [zI y0], zH S I) Q ↔ (Q (some (zI y0), zH S I)) := (WpK_iff [2, 25, 41] 1 67 _ Q).symm
set_option maxRecDepth 100000 in
theorem sg_X4_actFor_0_9 (S : PS) (I : Nat → Nat → Int) (x1 : Int) (w2 : PV) (Q : PV1 → Prop) : Wp 67 (0, [zA 9, zI x1, w2], [], zH S I) Q ↔ (Wp 67 (2, [zA 9, zI x1, zI 0], [], zH S I) Q) := (WpK_iff [2, 25, 41] 2 67 _ Q).symm
set_option maxRecDepth 100000 in
theorem sg_X4_actFor_2_9 (S : PS) (I : Nat → Nat → Int) (x1 : Int) (x2 : Int) (Q : PV1 → Prop) : Wp 67 (2, [zA 9, zI x1, zI x2], [], zH S I) Q ↔ (cond (decide (x2 < 6)) (cond (zib x2 6) (Wp 34 (0, [zA 1, zI (I 10 (x2 : Int).toNat), zI x1], [], zH S I) (fun w => Wp 67 (25, [zA 9, zI x1, zI x2], w.1.toList ++ [], w.2) Q)) False) (Q (some (zI ((-1))), zH S I))) := (WpK_iff [2, 25, 41] 13 67 _ Q).symm
set_option maxRecDepth 100000 in
theorem sg_X4_actFor_25_9 (S : PS) (I : Nat → Nat → Int) (x1 : Int) (x2 : Int) (y0 : Int) (Q : PV1 → Prop) : Wp 67 (25, [zA 9, zI x1, zI x2], [zI y0], zH S I) Q ↔ (cond (decide (y0 = 0)) (Wp 67 (2, [zA 9, zI x1, zI (zad x2 1)], [], zH S I) Q) (cond (zib x2 6) (Wp 33 (0, [zA 1, zI (I 10 (x2 : Int).toNat)], [], zH S I) (fun w => Wp 67 (41, [zA 9, zI x1, zI x2], w.1.toList ++ [], w.2) Q)) False)) := (WpK_iff [2, 25, 41] 8 67 _ Q).symm
set_option maxRecDepth 100000 in
theorem sg_X4_dueActFor_0_7 (S : PS) (I : Nat → Nat → Int) (x1 : Int) (w2 : PV) (w3 : PV) (w4 : PV) (Q : PV1 → Prop) : Wp 68 (0, [zA 7, zI x1, w2, w3, w4], [], zH S I) Q ↔ (Wp 68 (4, [zA 7, zI x1, zI ((-1)), zI 0, w4], [], zH S I) Q) := (WpK_iff [4, 31, 49, 69] 4 68 _ Q).symm
set_option maxRecDepth 100000 in
theorem sg_X4_dueActFor_4_7 (S : PS) (I : Nat → Nat → Int) (x1 : Int) (x2 : Int) (x3 : Int) (w4 : PV) (Q : PV1 → Prop) : Wp 68 (4, [zA 7, zI x1, zI x2, zI x3, w4], [], zH S I) Q ↔ (cond (decide (x3 < 6)) (cond (zib x3 6) (Wp 34 (0, [zA 1, zI (I 8 (x3 : Int).toNat), zI x1], [], zH S I) (fun w => Wp 68 (31, [zA 7, zI x1, zI x2, zI x3, zI (I 8 (x3 : Int).toNat)], w.1.toList ++ [], w.2) Q)) False) (Wp 33 (0, [zA 1, zI x2], [], zH S I) (fun w => Wp 68 (69, [zA 7, zI x1, zI x2, zI x3, w4], w.1.toList ++ [], w.2) Q))) := (WpK_iff [4, 31, 49, 69] 15 68 _ Q).symm
set_option maxRecDepth 100000 in
theorem sg_X4_dueActFor_31_7 (S : PS) (I : Nat → Nat → Int) (x1 : Int) (x2 : Int) (x3 : Int) (x4 : Int) (y0 : Int) (Q : PV1 → Prop) : Wp 68 (31, [zA 7, zI x1, zI x2, zI x3, zI x4], [zI y0], zH S I) Q ↔ (cond (decide (y0 = 0)) (Wp 68 (4, [zA 7, zI x1, zI x2, zI (zad x3 1), zI x4], [], zH S I) Q) (cond (decide (x2 = (-1))) (Wp 68 (4, [zA 7, zI x1, zI x4, zI (zad x3 1), zI x4], [], zH S I) Q) (Wp 36 (0, [zA 1, zI x4, zI x2], [], zH S I) (fun w => Wp 68 (49, [zA 7, zI x1, zI x2, zI x3, zI x4], w.1.toList ++ [], w.2) Q)))) := (WpK_iff [4, 31, 49, 69] 9 68 _ Q).symm
set_option maxRecDepth 100000 in
theorem sg_X4_dueActFor_49_7 (S : PS) (I : Nat → Nat → Int) (x1 : Int) (x2 : Int) (x3 : Int) (x4 : Int) (y0 : Int) (Q : PV1 → Prop) : Wp 68 (49, [zA 7, zI x1, zI x2, zI x3, zI x4], [zI y0], zH S I) Q ↔ (cond (decide (y0 = 0)) (Wp 68 (4, [zA 7, zI x1, zI x2, zI (zad x3 1), zI x4], [], zH S I) Q) (Wp 68 (4, [zA 7, zI x1, zI x4, zI (zad x3 1), zI x4], [], zH S I) Q)) := (WpK_iff [4, 31, 49, 69] 5 68 _ Q).symm
set_option maxRecDepth 100000 in
theorem sg_X4_dueActFor_69 (S : PS) (I : Nat → Nat → Int) (w0 : PV) (w1 : PV) (w2 : PV) (w3 : PV) (w4 : PV) (y0 : Int) (Q : PV1 → Prop) : Wp 68 (69, [w0, w1, w2, w3, w4], [zI y0], zH S I) Q ↔ (Q (some (zI y0), zH S I)) := (WpK_iff [4, 31, 49, 69] 1 68 _ Q).symm
set_option maxRecDepth 100000 in
theorem sg_X4_dueActFor_0_9 (S : PS) (I : Nat → Nat → Int) (x1 : Int) (w2 : PV) (w3 : PV) (w4 : PV) (Q : PV1 → Prop) : Wp 68 (0, [zA 9, zI x1, w2, w3, w4], [], zH S I) Q ↔ (Wp 68 (4, [zA 9, zI x1, zI ((-1)), zI 0, w4], [], zH S I) Q) := (WpK_iff [4, 31, 49, 69] 4 68 _ Q).symm
set_option maxRecDepth 100000 in
theorem sg_X4_dueActFor_4_9 (S : PS) (I : Nat → Nat → Int) (x1 : Int) (x2 : Int) (x3 : Int) (w4 : PV) (Q : PV1 → Prop) : Wp 68 (4, [zA 9, zI x1, zI x2, zI x3, w4], [], zH S I) Q ↔ (cond (decide (x3 < 6)) (cond (zib x3 6) (Wp 34 (0, [zA 1, zI (I 10 (x3 : Int).toNat), zI x1], [], zH S I) (fun w => Wp 68 (31, [zA 9, zI x1, zI x2, zI x3, zI (I 10 (x3 : Int).toNat)], w.1.toList ++ [], w.2) Q)) False) (Wp 33 (0, [zA 1, zI x2], [], zH S I) (fun w => Wp 68 (69, [zA 9, zI x1, zI x2, zI x3, w4], w.1.toList ++ [], w.2) Q))) := (WpK_iff [4, 31, 49, 69] 15 68 _ Q).symm
set_option maxRecDepth 100000 in
theorem sg_X4_dueActFor_31_9 (S : PS) (I : Nat → Nat → Int) (x1 : Int) (x2 : Int) (x3 : Int) (x4 : Int) (y0 : Int) (Q : PV1 → Prop) : Wp 68 (31, [zA 9, zI x1, zI x2, zI x3, zI x4], [zI y0], zH S I) Q ↔ (cond (decide (y0 = 0)) (Wp 68 (4, [zA 9, zI x1, zI x2, zI (zad x3 1), zI x4], [], zH S I) Q) (cond (decide (x2 = (-1))) (Wp 68 (4, [zA 9, zI x1, zI x4, zI (zad x3 1), zI x4], [], zH S I) Q) (Wp 36 (0, [zA 1, zI x4, zI x2], [], zH S I) (fun w => Wp 68 (49, [zA 9, zI x1, zI x2, zI x3, zI x4], w.1.toList ++ [], w.2) Q)))) := (WpK_iff [4, 31, 49, 69] 9 68 _ Q).symm
set_option maxRecDepth 100000 in
theorem sg_X4_dueActFor_49_9 (S : PS) (I : Nat → Nat → Int) (x1 : Int) (x2 : Int) (x3 : Int) (x4 : Int) (y0 : Int) (Q : PV1 → Prop) : Wp 68 (49, [zA 9, zI x1, zI x2, zI x3, zI x4], [zI y0], zH S I) Q ↔ (cond (decide (y0 = 0)) (Wp 68 (4, [zA 9, zI x1, zI x2, zI (zad x3 1), zI x4], [], zH S I) Q) (Wp 68 (4, [zA 9, zI x1, zI x4, zI (zad x3 1), zI x4], [], zH S I) Q)) := (WpK_iff [4, 31, 49, 69] 5 68 _ Q).symm
set_option maxRecDepth 100000 in
theorem sg_X4_firstKeyShown_0_7 (S : PS) (I : Nat → Nat → Int) (x1 : Int) (w2 : PV) (Q : PV1 → Prop) : Wp 72 (0, [zA 7, zI x1, w2], [], zH S I) Q ↔ (Wp 72 (2, [zA 7, zI x1, zI 0], [], zH S I) Q) := (WpK_iff [2, 17, 26] 2 72 _ Q).symm
set_option maxRecDepth 100000 in
theorem sg_X4_firstKeyShown_2_7 (S : PS) (I : Nat → Nat → Int) (x1 : Int) (x2 : Int) (Q : PV1 → Prop) : Wp 72 (2, [zA 7, zI x1, zI x2], [], zH S I) Q ↔ (cond (decide (x2 < 32)) (Wp 34 (0, [zA 1, zI x1, zI x2], [], zH S I) (fun w => Wp 72 (17, [zA 7, zI x1, zI x2], w.1.toList ++ [], w.2) Q)) (Q (some (zI ((-2))), zH S I))) := (WpK_iff [2, 17, 26] 8 72 _ Q).symm
set_option maxRecDepth 100000 in
theorem sg_X4_firstKeyShown_17_7 (S : PS) (I : Nat → Nat → Int) (x1 : Int) (x2 : Int) (y0 : Int) (Q : PV1 → Prop) : Wp 72 (17, [zA 7, zI x1, zI x2], [zI y0], zH S I) Q ↔ (cond (decide (y0 = 0)) (Wp 72 (2, [zA 7, zI x1, zI (zad x2 1)], [], zH S I) Q) (Wp 73 (0, [zA 7, zI x2, zI x1, zU], [], zH S I) (fun w => Wp 72 (26, [zA 7, zI x1, zI x2], w.1.toList ++ [], w.2) Q))) := (WpK_iff [2, 17, 26] 5 72 _ Q).symm
set_option maxRecDepth 100000 in
theorem sg_X4_firstKeyShown_26_7 (S : PS) (I : Nat → Nat → Int) (x1 : Int) (x2 : Int) (y0 : Int) (Q : PV1 → Prop) : Wp 72 (26, [zA 7, zI x1, zI x2], [zI y0], zH S I) Q ↔ (cond (decide (y0 = 0)) (Q (some (zI x2), zH S I)) (Wp 72 (2, [zA 7, zI x1, zI (zad x2 1)], [], zH S I) Q)) := (WpK_iff [2, 17, 26] 3 72 _ Q).symm
set_option maxRecDepth 100000 in
theorem sg_X4_firstKeyShown_0_9 (S : PS) (I : Nat → Nat → Int) (x1 : Int) (w2 : PV) (Q : PV1 → Prop) : Wp 72 (0, [zA 9, zI x1, w2], [], zH S I) Q ↔ (Wp 72 (2, [zA 9, zI x1, zI 0], [], zH S I) Q) := (WpK_iff [2, 17, 26] 2 72 _ Q).symm
set_option maxRecDepth 100000 in
theorem sg_X4_firstKeyShown_2_9 (S : PS) (I : Nat → Nat → Int) (x1 : Int) (x2 : Int) (Q : PV1 → Prop) : Wp 72 (2, [zA 9, zI x1, zI x2], [], zH S I) Q ↔ (cond (decide (x2 < 32)) (Wp 34 (0, [zA 1, zI x1, zI x2], [], zH S I) (fun w => Wp 72 (17, [zA 9, zI x1, zI x2], w.1.toList ++ [], w.2) Q)) (Q (some (zI ((-2))), zH S I))) := (WpK_iff [2, 17, 26] 8 72 _ Q).symm
set_option maxRecDepth 100000 in
theorem sg_X4_firstKeyShown_17_9 (S : PS) (I : Nat → Nat → Int) (x1 : Int) (x2 : Int) (y0 : Int) (Q : PV1 → Prop) : Wp 72 (17, [zA 9, zI x1, zI x2], [zI y0], zH S I) Q ↔ (cond (decide (y0 = 0)) (Wp 72 (2, [zA 9, zI x1, zI (zad x2 1)], [], zH S I) Q) (Wp 73 (0, [zA 9, zI x2, zI x1, zU], [], zH S I) (fun w => Wp 72 (26, [zA 9, zI x1, zI x2], w.1.toList ++ [], w.2) Q))) := (WpK_iff [2, 17, 26] 5 72 _ Q).symm
set_option maxRecDepth 100000 in
theorem sg_X4_firstKeyShown_26_9 (S : PS) (I : Nat → Nat → Int) (x1 : Int) (x2 : Int) (y0 : Int) (Q : PV1 → Prop) : Wp 72 (26, [zA 9, zI x1, zI x2], [zI y0], zH S I) Q ↔ (cond (decide (y0 = 0)) (Q (some (zI x2), zH S I)) (Wp 72 (2, [zA 9, zI x1, zI (zad x2 1)], [], zH S I) Q)) := (WpK_iff [2, 17, 26] 3 72 _ Q).symm
set_option maxRecDepth 100000 in
theorem sg_X4_isFull_0_7 (S : PS) (I : Nat → Nat → Int)  (Q : PV1 → Prop) : Wp 63 (0, [zA 7], [], zH S I) Q ↔ (Wp 62 (0, [zA 7, zU, zU], [], zH S I) (fun w => Wp 63 (4, [zA 7], w.1.toList ++ [], w.2) Q)) := (WpK_iff [4] 2 63 _ Q).symm
set_option maxRecDepth 100000 in
theorem sg_X4_isFull_4_7 (S : PS) (I : Nat → Nat → Int) (y0 : Int) (Q : PV1 → Prop) : Wp 63 (4, [zA 7], [zI y0], zH S I) Q ↔ (cond (decide (y0 < I 7 2)) (cond (zbb 0) (Q (some (zI 0), zH S I)) False) (cond (zbb 1) (Q (some (zI 1), zH S I)) False)) := (WpK_iff [4] 6 63 _ Q).symm
set_option maxRecDepth 100000 in
theorem sg_X4_isFull_0_9 (S : PS) (I : Nat → Nat → Int)  (Q : PV1 → Prop) : Wp 63 (0, [zA 9], [], zH S I) Q ↔ (Wp 62 (0, [zA 9, zU, zU], [], zH S I) (fun w => Wp 63 (4, [zA 9], w.1.toList ++ [], w.2) Q)) := (WpK_iff [4] 2 63 _ Q).symm
set_option maxRecDepth 100000 in
theorem sg_X4_isFull_4_9 (S : PS) (I : Nat → Nat → Int) (y0 : Int) (Q : PV1 → Prop) : Wp 63 (4, [zA 9], [zI y0], zH S I) Q ↔ (cond (decide (y0 < I 9 2)) (cond (zbb 0) (Q (some (zI 0), zH S I)) False) (cond (zbb 1) (Q (some (zI 1), zH S I)) False)) := (WpK_iff [4] 6 63 _ Q).symm
set_option maxRecDepth 100000 in
theorem sg_X4_packed_0_7 (S : PS) (I : Nat → Nat → Int) (w1 : PV) (w2 : PV) (Q : PV1 → Prop) : Wp 75 (0, [zA 7, w1, w2], [], zH S I) Q ↔ (Wp 75 (10, [zA 7, zI 0, zI (zsb 6 1)], [], zH S I) Q) := (WpK_iff [10] 8 75 _ Q).symm
set_option maxRecDepth 100000 in
theorem sg_X4_packed_10_7 (S : PS) (I : Nat → Nat → Int) (x1 : Int) (x2 : Int) (Q : PV1 → Prop) : Wp 75 (10, [zA 7, zI x1, zI x2], [], zH S I) Q ↔ (cond (decide (x2 < 0)) (Q (some (zI x1), zH S I)) (cond (zib x2 6) (Wp 75 (10, [zA 7, zI (zad (zad (zml x1 17) (I 8 (x2 : Int).toNat)) 1), zI (zad x2 (-1))], [], zH S I) Q) False)) := (WpK_iff [10] 15 75 _ Q).symm
set_option maxRecDepth 100000 in
theorem sg_X4_packed_0_9 (S : PS) (I : Nat → Nat → Int) (w1 : PV) (w2 : PV) (Q : PV1 → Prop) : Wp 75 (0, [zA 9, w1, w2], [], zH S I) Q ↔ (Wp 75 (10, [zA 9, zI 0, zI (zsb 6 1)], [], zH S I) Q) := (WpK_iff [10] 8 75 _ Q).symm
set_option maxRecDepth 100000 in
theorem sg_X4_packed_10_9 (S : PS) (I : Nat → Nat → Int) (x1 : Int) (x2 : Int) (Q : PV1 → Prop) : Wp 75 (10, [zA 9, zI x1, zI x2], [], zH S I) Q ↔ (cond (decide (x2 < 0)) (Q (some (zI x1), zH S I)) (cond (zib x2 6) (Wp 75 (10, [zA 9, zI (zad (zad (zml x1 17) (I 10 (x2 : Int).toNat)) 1), zI (zad x2 (-1))], [], zH S I) Q) False)) := (WpK_iff [10] 15 75 _ Q).symm
set_option maxRecDepth 100000 in
theorem sg_X4_standing_0_7 (S : PS) (I : Nat → Nat → Int) (w1 : PV) (w2 : PV) (Q : PV1 → Prop) : Wp 62 (0, [zA 7, w1, w2], [], zH S I) Q ↔ (Wp 62 (4, [zA 7, zI 0, zI 0], [], zH S I) Q) := (WpK_iff [4] 4 62 _ Q).symm
set_option maxRecDepth 100000 in
theorem sg_X4_standing_4_7 (S : PS) (I : Nat → Nat → Int) (x1 : Int) (x2 : Int) (Q : PV1 → Prop) : Wp 62 (4, [zA 7, zI x1, zI x2], [], zH S I) Q ↔ (cond (decide (x2 < 6)) (cond (zib x2 6) (cond (decide (I 8 (x2 : Int).toNat = (-1))) (Wp 62 (4, [zA 7, zI x1, zI (zad x2 1)], [], zH S I) Q) (Wp 62 (4, [zA 7, zI (zad x1 1), zI (zad x2 1)], [], zH S I) Q)) False) (Q (some (zI x1), zH S I))) := (WpK_iff [4] 14 62 _ Q).symm
set_option maxRecDepth 100000 in
theorem sg_X4_highestBelow_0_7 (S : PS) (I : Nat → Nat → Int) (x1 : Int) (w2 : PV) (w3 : PV) (w4 : PV) (w5 : PV) (Q : PV1 → Prop) : Wp 74 (0, [zA 7, zI x1, w2, w3, w4, w5], [], zH S I) Q ↔ (Wp 74 (4, [zA 7, zI x1, zI ((-1)), zI 0, w4, w5], [], zH S I) Q) := (WpK_iff [4, 36, 72] 4 74 _ Q).symm
set_option maxRecDepth 100000 in
theorem sg_X4_highestBelow_4_7 (S : PS) (I : Nat → Nat → Int) (x1 : Int) (x2 : Int) (x3 : Int) (w4 : PV) (w5 : PV) (Q : PV1 → Prop) : Wp 74 (4, [zA 7, zI x1, zI x2, zI x3, w4, w5], [], zH S I) Q ↔ (cond (decide (x3 < 6)) (cond (zib x3 6) (cond (decide (x1 = (-1))) (cond (decide (I 8 (x3 : Int).toNat = (-1))) (Wp 74 (4, [zA 7, zI x1, zI x2, zI (zad x3 1), zI (I 8 (x3 : Int).toNat), zI 1], [], zH S I) Q) (cond (decide (1 = 0)) (Wp 74 (4, [zA 7, zI x1, zI x2, zI (zad x3 1), zI (I 8 (x3 : Int).toNat), zI 1], [], zH S I) Q) (cond (decide (x2 = (-1))) (Wp 74 (4, [zA 7, zI x1, zI (I 8 (x3 : Int).toNat), zI (zad x3 1), zI (I 8 (x3 : Int).toNat), zI 1], [], zH S I) Q) (Wp 36 (0, [zA 1, zI (I 8 (x3 : Int).toNat), zI x2], [], zH S I) (fun w => Wp 74 (72, [zA 7, zI x1, zI x2, zI x3, zI (I 8 (x3 : Int).toNat), zI 1], w.1.toList ++ [], w.2) Q))))) (Wp 36 (0, [zA 1, zI x1, zI (I 8 (x3 : Int).toNat)], [], zH S I) (fun w => Wp 74 (36, [zA 7, zI x1, zI x2, zI x3, zI (I 8 (x3 : Int).toNat), w5], w.1.toList ++ [], w.2) Q))) False) (Q (some (zI x2), zH S I))) := (WpK_iff [4, 36, 72] 29 74 _ Q).symm
set_option maxRecDepth 100000 in
theorem sg_X4_highestBelow_72_7 (S : PS) (I : Nat → Nat → Int) (x1 : Int) (x2 : Int) (x3 : Int) (x4 : Int) (w5 : PV) (y0 : Int) (Q : PV1 → Prop) : Wp 74 (72, [zA 7, zI x1, zI x2, zI x3, zI x4, w5], [zI y0], zH S I) Q ↔ (cond (decide (y0 = 0)) (Wp 74 (4, [zA 7, zI x1, zI x2, zI (zad x3 1), zI x4, w5], [], zH S I) Q) (Wp 74 (4, [zA 7, zI x1, zI x4, zI (zad x3 1), zI x4, w5], [], zH S I) Q)) := (WpK_iff [4, 36, 72] 5 74 _ Q).symm
set_option maxRecDepth 100000 in
theorem sg_X4_highestBelow_36_7 (S : PS) (I : Nat → Nat → Int) (x1 : Int) (x2 : Int) (x3 : Int) (x4 : Int) (w5 : PV) (y0 : Int) (Q : PV1 → Prop) : Wp 74 (36, [zA 7, zI x1, zI x2, zI x3, zI x4, w5], [zI y0], zH S I) Q ↔ (cond (decide (y0 = 0)) (cond (decide (x4 = (-1))) (Wp 74 (4, [zA 7, zI x1, zI x2, zI (zad x3 1), zI x4, zI 0], [], zH S I) Q) (cond (decide (0 = 0)) (Wp 74 (4, [zA 7, zI x1, zI x2, zI (zad x3 1), zI x4, zI 0], [], zH S I) Q) (cond (decide (x2 = (-1))) (Wp 74 (4, [zA 7, zI x1, zI x4, zI (zad x3 1), zI x4, zI 0], [], zH S I) Q) (Wp 36 (0, [zA 1, zI x4, zI x2], [], zH S I) (fun w => Wp 74 (72, [zA 7, zI x1, zI x2, zI x3, zI x4, zI 0], w.1.toList ++ [], w.2) Q))))) (cond (decide (x4 = (-1))) (Wp 74 (4, [zA 7, zI x1, zI x2, zI (zad x3 1), zI x4, zI 1], [], zH S I) Q) (cond (decide (1 = 0)) (Wp 74 (4, [zA 7, zI x1, zI x2, zI (zad x3 1), zI x4, zI 1], [], zH S I) Q) (cond (decide (x2 = (-1))) (Wp 74 (4, [zA 7, zI x1, zI x4, zI (zad x3 1), zI x4, zI 1], [], zH S I) Q) (Wp 36 (0, [zA 1, zI x4, zI x2], [], zH S I) (fun w => Wp 74 (72, [zA 7, zI x1, zI x2, zI x3, zI x4, zI 1], w.1.toList ++ [], w.2) Q)))))) := (WpK_iff [4, 36, 72] 17 74 _ Q).symm
set_option maxRecDepth 100000 in
theorem sg_X4_carryOut_0_7_28 (S : PS) (I : Nat → Nat → Int) (w2 : PV) (Q : PV1 → Prop) : Wp 66 (0, [zA 7, zA 28, w2], [], zH S I) Q ↔ (Wp 66 (2, [zA 7, zA 28, zI 0], [], zH S I) Q) := (WpK_iff [2, 13, 22, 27, 30] 2 66 _ Q).symm
set_option maxRecDepth 100000 in
theorem sg_X4_carryOut_2_7_28 (S : PS) (I : Nat → Nat → Int) (x2 : Int) (Q : PV1 → Prop) : Wp 66 (2, [zA 7, zA 28, zI x2], [], zH S I) Q ↔ (cond (decide (x2 < 16)) (Wp 15 (0, [zA 28], [], zH S I) (fun w => Wp 66 (13, [zA 7, zA 28, zI x2], w.1.toList ++ [zI x2], w.2) Q)) (Q (none, zH S I))) := (WpK_iff [2, 13, 22, 27, 30] 6 66 _ Q).symm
set_option maxRecDepth 100000 in
theorem sg_X4_carryOut_13_7_28 (S : PS) (I : Nat → Nat → Int) (x2 : Int) (y0 : Int) (y1 : Int) (Q : PV1 → Prop) : Wp 66 (13, [zA 7, zA 28, zI x2], [zI y1, zI y0], zH S I) Q ↔ (cond (decide (y0 < y1)) (Wp 17 (0, [zA 28, zI x2], [], zH S I) (fun w => Wp 66 (22, [zA 7, zA 28, zI x2], w.1.toList ++ [zA 7], w.2) Q)) (Q (none, zH S I))) := (WpK_iff [2, 13, 22, 27, 30] 5 66 _ Q).symm
set_option maxRecDepth 100000 in
theorem sg_X4_carryOut_22_7_28_7 (S : PS) (I : Nat → Nat → Int) (x2 : Int) (y1 : Int) (Q : PV1 → Prop) : Wp 66 (22, [zA 7, zA 28, zI x2], [zI y1, zA 7], zH S I) Q ↔ (Wp 18 (0, [zA 28, zI x2], [], zH S I) (fun w => Wp 66 (27, [zA 7, zA 28, zI x2], w.1.toList ++ [zI y1, zA 7], w.2) Q)) := (WpK_iff [2, 13, 22, 27, 30] 3 66 _ Q).symm
set_option maxRecDepth 100000 in
theorem sg_X4_carryOut_27_7_28_7 (S : PS) (I : Nat → Nat → Int) (x2 : Int) (y1 : Int) (y2 : Int) (Q : PV1 → Prop) : Wp 66 (27, [zA 7, zA 28, zI x2], [zI y2, zI y1, zA 7], zH S I) Q ↔ (Wp 65 (0, [zA 7, zI y1, zI y2], [], zH S I) (fun w => Wp 66 (30, [zA 7, zA 28, zI x2], w.1.toList ++ [], w.2) Q)) := (WpK_iff [2, 13, 22, 27, 30] 1 66 _ Q).symm
set_option maxRecDepth 100000 in
theorem sg_X4_carryOut_30_7_28 (S : PS) (I : Nat → Nat → Int) (x2 : Int) (Q : PV1 → Prop) : Wp 66 (30, [zA 7, zA 28, zI x2], [], zH S I) Q ↔ (Wp 66 (2, [zA 7, zA 28, zI (zad x2 1)], [], zH S I) Q) := (WpK_iff [2, 13, 22, 27, 30] 2 66 _ Q).symm
set_option maxRecDepth 100000 in
theorem sg_X4_standing_0_9 (S : PS) (I : Nat → Nat → Int) (w1 : PV) (w2 : PV) (Q : PV1 → Prop) : Wp 62 (0, [zA 9, w1, w2], [], zH S I) Q ↔ (Wp 62 (4, [zA 9, zI 0, zI 0], [], zH S I) Q) := (WpK_iff [4] 4 62 _ Q).symm
set_option maxRecDepth 100000 in
theorem sg_X4_standing_4_9 (S : PS) (I : Nat → Nat → Int) (x1 : Int) (x2 : Int) (Q : PV1 → Prop) : Wp 62 (4, [zA 9, zI x1, zI x2], [], zH S I) Q ↔ (cond (decide (x2 < 6)) (cond (zib x2 6) (cond (decide (I 10 (x2 : Int).toNat = (-1))) (Wp 62 (4, [zA 9, zI x1, zI (zad x2 1)], [], zH S I) Q) (Wp 62 (4, [zA 9, zI (zad x1 1), zI (zad x2 1)], [], zH S I) Q)) False) (Q (some (zI x1), zH S I))) := (WpK_iff [4] 14 62 _ Q).symm
set_option maxRecDepth 100000 in
theorem sg_X4_carryOut_0_9_28 (S : PS) (I : Nat → Nat → Int) (w2 : PV) (Q : PV1 → Prop) : Wp 66 (0, [zA 9, zA 28, w2], [], zH S I) Q ↔ (Wp 66 (2, [zA 9, zA 28, zI 0], [], zH S I) Q) := (WpK_iff [2, 13, 22, 27, 30] 2 66 _ Q).symm
set_option maxRecDepth 100000 in
theorem sg_X4_carryOut_2_9_28 (S : PS) (I : Nat → Nat → Int) (x2 : Int) (Q : PV1 → Prop) : Wp 66 (2, [zA 9, zA 28, zI x2], [], zH S I) Q ↔ (cond (decide (x2 < 16)) (Wp 15 (0, [zA 28], [], zH S I) (fun w => Wp 66 (13, [zA 9, zA 28, zI x2], w.1.toList ++ [zI x2], w.2) Q)) (Q (none, zH S I))) := (WpK_iff [2, 13, 22, 27, 30] 6 66 _ Q).symm
set_option maxRecDepth 100000 in
theorem sg_X4_carryOut_13_9_28 (S : PS) (I : Nat → Nat → Int) (x2 : Int) (y0 : Int) (y1 : Int) (Q : PV1 → Prop) : Wp 66 (13, [zA 9, zA 28, zI x2], [zI y1, zI y0], zH S I) Q ↔ (cond (decide (y0 < y1)) (Wp 17 (0, [zA 28, zI x2], [], zH S I) (fun w => Wp 66 (22, [zA 9, zA 28, zI x2], w.1.toList ++ [zA 9], w.2) Q)) (Q (none, zH S I))) := (WpK_iff [2, 13, 22, 27, 30] 5 66 _ Q).symm
set_option maxRecDepth 100000 in
theorem sg_X4_carryOut_22_9_28_9 (S : PS) (I : Nat → Nat → Int) (x2 : Int) (y1 : Int) (Q : PV1 → Prop) : Wp 66 (22, [zA 9, zA 28, zI x2], [zI y1, zA 9], zH S I) Q ↔ (Wp 18 (0, [zA 28, zI x2], [], zH S I) (fun w => Wp 66 (27, [zA 9, zA 28, zI x2], w.1.toList ++ [zI y1, zA 9], w.2) Q)) := (WpK_iff [2, 13, 22, 27, 30] 3 66 _ Q).symm
set_option maxRecDepth 100000 in
theorem sg_X4_carryOut_27_9_28_9 (S : PS) (I : Nat → Nat → Int) (x2 : Int) (y1 : Int) (y2 : Int) (Q : PV1 → Prop) : Wp 66 (27, [zA 9, zA 28, zI x2], [zI y2, zI y1, zA 9], zH S I) Q ↔ (Wp 65 (0, [zA 9, zI y1, zI y2], [], zH S I) (fun w => Wp 66 (30, [zA 9, zA 28, zI x2], w.1.toList ++ [], w.2) Q)) := (WpK_iff [2, 13, 22, 27, 30] 1 66 _ Q).symm
set_option maxRecDepth 100000 in
theorem sg_X4_carryOut_30_9_28 (S : PS) (I : Nat → Nat → Int) (x2 : Int) (Q : PV1 → Prop) : Wp 66 (30, [zA 9, zA 28, zI x2], [], zH S I) Q ↔ (Wp 66 (2, [zA 9, zA 28, zI (zad x2 1)], [], zH S I) Q) := (WpK_iff [2, 13, 22, 27, 30] 2 66 _ Q).symm
set_option maxRecDepth 100000 in
theorem sg_X4_highestBelow_0_9 (S : PS) (I : Nat → Nat → Int) (x1 : Int) (w2 : PV) (w3 : PV) (w4 : PV) (w5 : PV) (Q : PV1 → Prop) : Wp 74 (0, [zA 9, zI x1, w2, w3, w4, w5], [], zH S I) Q ↔ (Wp 74 (4, [zA 9, zI x1, zI ((-1)), zI 0, w4, w5], [], zH S I) Q) := (WpK_iff [4, 36, 72] 4 74 _ Q).symm
set_option maxRecDepth 100000 in
theorem sg_X4_highestBelow_4_9 (S : PS) (I : Nat → Nat → Int) (x1 : Int) (x2 : Int) (x3 : Int) (w4 : PV) (w5 : PV) (Q : PV1 → Prop) : Wp 74 (4, [zA 9, zI x1, zI x2, zI x3, w4, w5], [], zH S I) Q ↔ (cond (decide (x3 < 6)) (cond (zib x3 6) (cond (decide (x1 = (-1))) (cond (decide (I 10 (x3 : Int).toNat = (-1))) (Wp 74 (4, [zA 9, zI x1, zI x2, zI (zad x3 1), zI (I 10 (x3 : Int).toNat), zI 1], [], zH S I) Q) (cond (decide (1 = 0)) (Wp 74 (4, [zA 9, zI x1, zI x2, zI (zad x3 1), zI (I 10 (x3 : Int).toNat), zI 1], [], zH S I) Q) (cond (decide (x2 = (-1))) (Wp 74 (4, [zA 9, zI x1, zI (I 10 (x3 : Int).toNat), zI (zad x3 1), zI (I 10 (x3 : Int).toNat), zI 1], [], zH S I) Q) (Wp 36 (0, [zA 1, zI (I 10 (x3 : Int).toNat), zI x2], [], zH S I) (fun w => Wp 74 (72, [zA 9, zI x1, zI x2, zI x3, zI (I 10 (x3 : Int).toNat), zI 1], w.1.toList ++ [], w.2) Q))))) (Wp 36 (0, [zA 1, zI x1, zI (I 10 (x3 : Int).toNat)], [], zH S I) (fun w => Wp 74 (36, [zA 9, zI x1, zI x2, zI x3, zI (I 10 (x3 : Int).toNat), w5], w.1.toList ++ [], w.2) Q))) False) (Q (some (zI x2), zH S I))) := (WpK_iff [4, 36, 72] 29 74 _ Q).symm
set_option maxRecDepth 100000 in
theorem sg_X4_highestBelow_72_9 (S : PS) (I : Nat → Nat → Int) (x1 : Int) (x2 : Int) (x3 : Int) (x4 : Int) (w5 : PV) (y0 : Int) (Q : PV1 → Prop) : Wp 74 (72, [zA 9, zI x1, zI x2, zI x3, zI x4, w5], [zI y0], zH S I) Q ↔ (cond (decide (y0 = 0)) (Wp 74 (4, [zA 9, zI x1, zI x2, zI (zad x3 1), zI x4, w5], [], zH S I) Q) (Wp 74 (4, [zA 9, zI x1, zI x4, zI (zad x3 1), zI x4, w5], [], zH S I) Q)) := (WpK_iff [4, 36, 72] 5 74 _ Q).symm
set_option maxRecDepth 100000 in
theorem sg_X4_highestBelow_36_9 (S : PS) (I : Nat → Nat → Int) (x1 : Int) (x2 : Int) (x3 : Int) (x4 : Int) (w5 : PV) (y0 : Int) (Q : PV1 → Prop) : Wp 74 (36, [zA 9, zI x1, zI x2, zI x3, zI x4, w5], [zI y0], zH S I) Q ↔ (cond (decide (y0 = 0)) (cond (decide (x4 = (-1))) (Wp 74 (4, [zA 9, zI x1, zI x2, zI (zad x3 1), zI x4, zI 0], [], zH S I) Q) (cond (decide (0 = 0)) (Wp 74 (4, [zA 9, zI x1, zI x2, zI (zad x3 1), zI x4, zI 0], [], zH S I) Q) (cond (decide (x2 = (-1))) (Wp 74 (4, [zA 9, zI x1, zI x4, zI (zad x3 1), zI x4, zI 0], [], zH S I) Q) (Wp 36 (0, [zA 1, zI x4, zI x2], [], zH S I) (fun w => Wp 74 (72, [zA 9, zI x1, zI x2, zI x3, zI x4, zI 0], w.1.toList ++ [], w.2) Q))))) (cond (decide (x4 = (-1))) (Wp 74 (4, [zA 9, zI x1, zI x2, zI (zad x3 1), zI x4, zI 1], [], zH S I) Q) (cond (decide (1 = 0)) (Wp 74 (4, [zA 9, zI x1, zI x2, zI (zad x3 1), zI x4, zI 1], [], zH S I) Q) (cond (decide (x2 = (-1))) (Wp 74 (4, [zA 9, zI x1, zI x4, zI (zad x3 1), zI x4, zI 1], [], zH S I) Q) (Wp 36 (0, [zA 1, zI x4, zI x2], [], zH S I) (fun w => Wp 74 (72, [zA 9, zI x1, zI x2, zI x3, zI x4, zI 1], w.1.toList ++ [], w.2) Q)))))) := (WpK_iff [4, 36, 72] 17 74 _ Q).symm
set_option maxRecDepth 100000 in
theorem sg_X4_unpack_0_7 (S : PS) (I : Nat → Nat → Int) (x1 : Int) (w2 : PV) (w3 : PV) (Q : PV1 → Prop) : Wp 76 (0, [zA 7, zI x1, w2, w3], [], zH S I) Q ↔ (Wp 76 (4, [zA 7, zI x1, zI x1, zI 0], [], zH S I) Q) := (WpK_iff [4] 4 76 _ Q).symm
set_option maxRecDepth 100000 in
theorem sg_X4_unpack_4_7 (S : PS) (I : Nat → Nat → Int) (w1 : PV) (x2 : Int) (x3 : Int) (Q : PV1 → Prop) : Wp 76 (4, [zA 7, w1, zI x2, zI x3], [], zH S I) Q ↔ (cond (decide (x3 < 6)) (cond (!decide ((17 : Int) = 0)) (cond (zib x3 6) (cond (!decide ((17 : Int) = 0)) (Wp 76 (4, [zA 7, w1, zI (zdv x2 17), zI (zad x3 1)], [], zH S (zs2 I 8 (x3 : Int).toNat (zsb (zrm x2 17) 1))) Q) False) False) False) (Q (none, zH S I))) := (WpK_iff [4] 20 76 _ Q).symm
set_option maxRecDepth 100000 in
theorem sg_X4_unpack_0_9 (S : PS) (I : Nat → Nat → Int) (x1 : Int) (w2 : PV) (w3 : PV) (Q : PV1 → Prop) : Wp 76 (0, [zA 9, zI x1, w2, w3], [], zH S I) Q ↔ (Wp 76 (4, [zA 9, zI x1, zI x1, zI 0], [], zH S I) Q) := (WpK_iff [4] 4 76 _ Q).symm
set_option maxRecDepth 100000 in
theorem sg_X4_unpack_4_9 (S : PS) (I : Nat → Nat → Int) (w1 : PV) (x2 : Int) (x3 : Int) (Q : PV1 → Prop) : Wp 76 (4, [zA 9, w1, zI x2, zI x3], [], zH S I) Q ↔ (cond (decide (x3 < 6)) (cond (!decide ((17 : Int) = 0)) (cond (zib x3 6) (cond (!decide ((17 : Int) = 0)) (Wp 76 (4, [zA 9, w1, zI (zdv x2 17), zI (zad x3 1)], [], zH S (zs2 I 10 (x3 : Int).toNat (zsb (zrm x2 17) 1))) Q) False) False) False) (Q (none, zH S I))) := (WpK_iff [4] 20 76 _ Q).symm
set_option maxRecDepth 100000 in
theorem sg_X4_lay_0_7 (S : PS) (I : Nat → Nat → Int) (x1 : Int) (x2 : Int) (Q : PV1 → Prop) : Wp 65 (0, [zA 7, zI x1, zI x2], [], zH S I) Q ↔ (Wp 58 (0, [zA 7, zI x2], [], zH S I) (fun w => Wp 65 (5, [zA 7, zI x1, zI x2], w.1.toList ++ [], w.2) Q)) := (WpK_iff [5, 14, 17] 3 65 _ Q).symm
set_option maxRecDepth 100000 in
theorem sg_X4_lay_5_7 (S : PS) (I : Nat → Nat → Int) (x1 : Int) (x2 : Int) (y0 : Int) (Q : PV1 → Prop) : Wp 65 (5, [zA 7, zI x1, zI x2], [zI y0], zH S I) Q ↔ (cond (decide (y0 = 0)) (Q (none, zH S I)) (Wp 60 (0, [zA 7, zI x1, zU], [], zH S I) (fun w => Wp 65 (14, [zA 7, zI x1, zI x2], w.1.toList ++ [zA 7], w.2) Q))) := (WpK_iff [5, 14, 17] 5 65 _ Q).symm
set_option maxRecDepth 100000 in
theorem sg_X4_lay_14_7_7 (S : PS) (I : Nat → Nat → Int) (x1 : Int) (x2 : Int) (y1 : Int) (Q : PV1 → Prop) : Wp 65 (14, [zA 7, zI x1, zI x2], [zI y1, zA 7], zH S I) Q ↔ (Wp 64 (0, [zA 7, zI y1], [], zH S I) (fun w => Wp 65 (17, [zA 7, zI x1, zI x2], w.1.toList ++ [], w.2) Q)) := (WpK_iff [5, 14, 17] 1 65 _ Q).symm
set_option maxRecDepth 100000 in
theorem sg_X4_lay_17_7 (S : PS) (I : Nat → Nat → Int) (x1 : Int) (x2 : Int) (Q : PV1 → Prop) : Wp 65 (17, [zA 7, zI x1, zI x2], [], zH S I) Q ↔ (cond (zib x2 6) (Q (none, zH S (zs2 I 8 (x2 : Int).toNat x1))) False) := (WpK_iff [5, 14, 17] 6 65 _ Q).symm
set_option maxRecDepth 100000 in
theorem sg_X4_lay_0_9 (S : PS) (I : Nat → Nat → Int) (x1 : Int) (x2 : Int) (Q : PV1 → Prop) : Wp 65 (0, [zA 9, zI x1, zI x2], [], zH S I) Q ↔ (Wp 58 (0, [zA 9, zI x2], [], zH S I) (fun w => Wp 65 (5, [zA 9, zI x1, zI x2], w.1.toList ++ [], w.2) Q)) := (WpK_iff [5, 14, 17] 3 65 _ Q).symm
set_option maxRecDepth 100000 in
theorem sg_X4_lay_5_9 (S : PS) (I : Nat → Nat → Int) (x1 : Int) (x2 : Int) (y0 : Int) (Q : PV1 → Prop) : Wp 65 (5, [zA 9, zI x1, zI x2], [zI y0], zH S I) Q ↔ (cond (decide (y0 = 0)) (Q (none, zH S I)) (Wp 60 (0, [zA 9, zI x1, zU], [], zH S I) (fun w => Wp 65 (14, [zA 9, zI x1, zI x2], w.1.toList ++ [zA 9], w.2) Q))) := (WpK_iff [5, 14, 17] 5 65 _ Q).symm
set_option maxRecDepth 100000 in
theorem sg_X4_lay_14_9_9 (S : PS) (I : Nat → Nat → Int) (x1 : Int) (x2 : Int) (y1 : Int) (Q : PV1 → Prop) : Wp 65 (14, [zA 9, zI x1, zI x2], [zI y1, zA 9], zH S I) Q ↔ (Wp 64 (0, [zA 9, zI y1], [], zH S I) (fun w => Wp 65 (17, [zA 9, zI x1, zI x2], w.1.toList ++ [], w.2) Q)) := (WpK_iff [5, 14, 17] 1 65 _ Q).symm
set_option maxRecDepth 100000 in
theorem sg_X4_lay_17_9 (S : PS) (I : Nat → Nat → Int) (x1 : Int) (x2 : Int) (Q : PV1 → Prop) : Wp 65 (17, [zA 9, zI x1, zI x2], [], zH S I) Q ↔ (cond (zib x2 6) (Q (none, zH S (zs2 I 10 (x2 : Int).toNat x1))) False) := (WpK_iff [5, 14, 17] 6 65 _ Q).symm
set_option maxRecDepth 100000 in
theorem sg_X4_isPlace_0_7 (S : PS) (I : Nat → Nat → Int) (x1 : Int) (Q : PV1 → Prop) : Wp 58 (0, [zA 7, zI x1], [], zH S I) Q ↔ (cond (decide (x1 < 0)) (cond (zbb 0) (Q (some (zI 0), zH S I)) False) (cond (decide (x1 < I 7 2)) (cond (decide (x1 < 6)) (cond (zbb 1) (Q (some (zI 1), zH S I)) False) (cond (zbb 0) (Q (some (zI 0), zH S I)) False)) (cond (zbb 0) (Q (some (zI 0), zH S I)) False))) := (WpK_iff [] 14 58 _ Q).symm
set_option maxRecDepth 100000 in
theorem sg_X4_isPlace_0_9 (S : PS) (I : Nat → Nat → Int) (x1 : Int) (Q : PV1 → Prop) : Wp 58 (0, [zA 9, zI x1], [], zH S I) Q ↔ (cond (decide (x1 < 0)) (cond (zbb 0) (Q (some (zI 0), zH S I)) False) (cond (decide (x1 < I 9 2)) (cond (decide (x1 < 6)) (cond (zbb 1) (Q (some (zI 1), zH S I)) False) (cond (zbb 0) (Q (some (zI 0), zH S I)) False)) (cond (zbb 0) (Q (some (zI 0), zH S I)) False))) := (WpK_iff [] 14 58 _ Q).symm
set_option maxRecDepth 100000 in
theorem sg_X4_hasHigherFor_0_7 (S : PS) (I : Nat → Nat → Int) (x1 : Int) (x2 : Int) (w3 : PV) (Q : PV1 → Prop) : Wp 73 (0, [zA 7, zI x1, zI x2, w3], [], zH S I) Q ↔ (Wp 73 (2, [zA 7, zI x1, zI x2, zI 0], [], zH S I) Q) := (WpK_iff [2, 25, 42] 2 73 _ Q).symm
set_option maxRecDepth 100000 in
theorem sg_X4_hasHigherFor_2_7 (S : PS) (I : Nat → Nat → Int) (x1 : Int) (x2 : Int) (x3 : Int) (Q : PV1 → Prop) : Wp 73 (2, [zA 7, zI x1, zI x2, zI x3], [], zH S I) Q ↔ (cond (decide (x3 < 6)) (cond (zib x3 6) (Wp 34 (0, [zA 1, zI (I 8 (x3 : Int).toNat), zI x1], [], zH S I) (fun w => Wp 73 (25, [zA 7, zI x1, zI x2, zI x3], w.1.toList ++ [], w.2) Q)) False) (cond (zbb 0) (Q (some (zI 0), zH S I)) False)) := (WpK_iff [2, 25, 42] 13 73 _ Q).symm
set_option maxRecDepth 100000 in
theorem sg_X4_hasHigherFor_25_7 (S : PS) (I : Nat → Nat → Int) (x1 : Int) (x2 : Int) (x3 : Int) (y0 : Int) (Q : PV1 → Prop) : Wp 73 (25, [zA 7, zI x1, zI x2, zI x3], [zI y0], zH S I) Q ↔ (cond (decide (y0 = 0)) (Wp 73 (2, [zA 7, zI x1, zI x2, zI (zad x3 1)], [], zH S I) Q) (cond (zib x3 6) (Wp 36 (0, [zA 1, zI (I 8 (x3 : Int).toNat), zI x2], [], zH S I) (fun w => Wp 73 (42, [zA 7, zI x1, zI x2, zI x3], w.1.toList ++ [], w.2) Q)) False)) := (WpK_iff [2, 25, 42] 9 73 _ Q).symm
set_option maxRecDepth 100000 in
theorem sg_X4_hasHigherFor_42_7 (S : PS) (I : Nat → Nat → Int) (x1 : Int) (x2 : Int) (x3 : Int) (y0 : Int) (Q : PV1 → Prop) : Wp 73 (42, [zA 7, zI x1, zI x2, zI x3], [zI y0], zH S I) Q ↔ (cond (decide (y0 = 0)) (Wp 73 (2, [zA 7, zI x1, zI x2, zI (zad x3 1)], [], zH S I) Q) (cond (zbb 1) (Q (some (zI 1), zH S I)) False)) := (WpK_iff [2, 25, 42] 3 73 _ Q).symm
set_option maxRecDepth 100000 in
theorem sg_X4_hasHigherFor_0_9 (S : PS) (I : Nat → Nat → Int) (x1 : Int) (x2 : Int) (w3 : PV) (Q : PV1 → Prop) : Wp 73 (0, [zA 9, zI x1, zI x2, w3], [], zH S I) Q ↔ (Wp 73 (2, [zA 9, zI x1, zI x2, zI 0], [], zH S I) Q) := (WpK_iff [2, 25, 42] 2 73 _ Q).symm
set_option maxRecDepth 100000 in
theorem sg_X4_hasHigherFor_2_9 (S : PS) (I : Nat → Nat → Int) (x1 : Int) (x2 : Int) (x3 : Int) (Q : PV1 → Prop) : Wp 73 (2, [zA 9, zI x1, zI x2, zI x3], [], zH S I) Q ↔ (cond (decide (x3 < 6)) (cond (zib x3 6) (Wp 34 (0, [zA 1, zI (I 10 (x3 : Int).toNat), zI x1], [], zH S I) (fun w => Wp 73 (25, [zA 9, zI x1, zI x2, zI x3], w.1.toList ++ [], w.2) Q)) False) (cond (zbb 0) (Q (some (zI 0), zH S I)) False)) := (WpK_iff [2, 25, 42] 13 73 _ Q).symm
set_option maxRecDepth 100000 in
theorem sg_X4_hasHigherFor_25_9 (S : PS) (I : Nat → Nat → Int) (x1 : Int) (x2 : Int) (x3 : Int) (y0 : Int) (Q : PV1 → Prop) : Wp 73 (25, [zA 9, zI x1, zI x2, zI x3], [zI y0], zH S I) Q ↔ (cond (decide (y0 = 0)) (Wp 73 (2, [zA 9, zI x1, zI x2, zI (zad x3 1)], [], zH S I) Q) (cond (zib x3 6) (Wp 36 (0, [zA 1, zI (I 10 (x3 : Int).toNat), zI x2], [], zH S I) (fun w => Wp 73 (42, [zA 9, zI x1, zI x2, zI x3], w.1.toList ++ [], w.2) Q)) False)) := (WpK_iff [2, 25, 42] 9 73 _ Q).symm
set_option maxRecDepth 100000 in
theorem sg_X4_hasHigherFor_42_9 (S : PS) (I : Nat → Nat → Int) (x1 : Int) (x2 : Int) (x3 : Int) (y0 : Int) (Q : PV1 → Prop) : Wp 73 (42, [zA 9, zI x1, zI x2, zI x3], [zI y0], zH S I) Q ↔ (cond (decide (y0 = 0)) (Wp 73 (2, [zA 9, zI x1, zI x2, zI (zad x3 1)], [], zH S I) Q) (cond (zbb 1) (Q (some (zI 1), zH S I)) False)) := (WpK_iff [2, 25, 42] 3 73 _ Q).symm
set_option maxRecDepth 100000 in
theorem sg_X4_noteActs_0_7_31 (S : PS) (I : Nat → Nat → Int) (w2 : PV) (Q : PV1 → Prop) : Wp 69 (0, [zA 7, zA 31, w2], [], zH S I) Q ↔ (Wp 69 (2, [zA 7, zA 31, zI 0], [], zH S I) Q) := (WpK_iff [2, 15] 2 69 _ Q).symm
set_option maxRecDepth 100000 in
theorem sg_X4_noteActs_2_7_31 (S : PS) (I : Nat → Nat → Int) (x2 : Int) (Q : PV1 → Prop) : Wp 69 (2, [zA 7, zA 31, zI x2], [], zH S I) Q ↔ (cond (decide (x2 < 32)) (Wp 67 (0, [zA 7, zI x2, zU], [], zH S I) (fun w => Wp 69 (15, [zA 7, zA 31, zI x2], w.1.toList ++ [zI x2, zA 31], w.2) Q)) (Q (none, zH S I))) := (WpK_iff [2, 15] 9 69 _ Q).symm
set_option maxRecDepth 100000 in
theorem sg_X4_noteActs_15_7_31_31 (S : PS) (I : Nat → Nat → Int) (x2 : Int) (y1 : Int) (y2 : Int) (Q : PV1 → Prop) : Wp 69 (15, [zA 7, zA 31, zI x2], [zI y2, zI y1, zA 31], zH S I) Q ↔ (cond (zib y1 32) (Wp 69 (2, [zA 7, zA 31, zI (zad x2 1)], [], zH S (zs2 I 31 (y1 : Int).toNat y2)) Q) False) := (WpK_iff [2, 15] 3 69 _ Q).symm
set_option maxRecDepth 100000 in
theorem sg_X4_isSafe_0_7 (S : PS) (I : Nat → Nat → Int) (w1 : PV) (w2 : PV) (Q : PV1 → Prop) : Wp 71 (0, [zA 7, w1, w2], [], zH S I) Q ↔ (Wp 71 (2, [zA 7, zI 1, w2], [], zH S I) Q) := (WpK_iff [2, 13, 37, 59] 2 71 _ Q).symm
set_option maxRecDepth 100000 in
theorem sg_X4_isSafe_2_7 (S : PS) (I : Nat → Nat → Int) (x1 : Int) (w2 : PV) (Q : PV1 → Prop) : Wp 71 (2, [zA 7, zI x1, w2], [], zH S I) Q ↔ (cond (decide (x1 < 6)) (Wp 71 (13, [zA 7, zI x1, zI 0], [], zH S I) Q) (cond (zbb 1) (Q (some (zI 1), zH S I)) False)) := (WpK_iff [2, 13, 37, 59] 7 71 _ Q).symm
set_option maxRecDepth 100000 in
theorem sg_X4_isSafe_13_7 (S : PS) (I : Nat → Nat → Int) (x1 : Int) (x2 : Int) (Q : PV1 → Prop) : Wp 71 (13, [zA 7, zI x1, zI x2], [], zH S I) Q ↔ (cond (decide (x2 < x1)) (cond (zib x2 6) (cond (zib x1 6) (Wp 35 (0, [zA 1, zI (I 8 (x2 : Int).toNat), zI (I 8 (x1 : Int).toNat)], [], zH S I) (fun w => Wp 71 (37, [zA 7, zI x1, zI x2], w.1.toList ++ [], w.2) Q)) False) False) (Wp 71 (2, [zA 7, zI (zad x1 1), zI x2], [], zH S I) Q)) := (WpK_iff [2, 13, 37, 59] 14 71 _ Q).symm
set_option maxRecDepth 100000 in
theorem sg_X4_isSafe_37_7 (S : PS) (I : Nat → Nat → Int) (x1 : Int) (x2 : Int) (y0 : Int) (Q : PV1 → Prop) : Wp 71 (37, [zA 7, zI x1, zI x2], [zI y0], zH S I) Q ↔ (cond (decide (y0 = 0)) (Wp 71 (13, [zA 7, zI x1, zI (zad x2 1)], [], zH S I) Q) (cond (zib x1 6) (cond (zib x2 6) (Wp 36 (0, [zA 1, zI (I 8 (x1 : Int).toNat), zI (I 8 (x2 : Int).toNat)], [], zH S I) (fun w => Wp 71 (59, [zA 7, zI x1, zI x2], w.1.toList ++ [], w.2) Q)) False) False)) := (WpK_iff [2, 13, 37, 59] 12 71 _ Q).symm
set_option maxRecDepth 100000 in
theorem sg_X4_isSafe_59_7 (S : PS) (I : Nat → Nat → Int) (x1 : Int) (x2 : Int) (y0 : Int) (Q : PV1 → Prop) : Wp 71 (59, [zA 7, zI x1, zI x2], [zI y0], zH S I) Q ↔ (cond (decide (y0 = 0)) (Wp 71 (13, [zA 7, zI x1, zI (zad x2 1)], [], zH S I) Q) (cond (zbb 0) (Q (some (zI 0), zH S I)) False)) := (WpK_iff [2, 13, 37, 59] 3 71 _ Q).symm
set_option maxRecDepth 100000 in
theorem sg_X4_hasActs_0_7_31 (S : PS) (I : Nat → Nat → Int) (w2 : PV) (Q : PV1 → Prop) : Wp 70 (0, [zA 7, zA 31, w2], [], zH S I) Q ↔ (Wp 70 (2, [zA 7, zA 31, zI 0], [], zH S I) Q) := (WpK_iff [2, 16] 2 70 _ Q).symm
set_option maxRecDepth 100000 in
theorem sg_X4_hasActs_2_7_31 (S : PS) (I : Nat → Nat → Int) (x2 : Int) (Q : PV1 → Prop) : Wp 70 (2, [zA 7, zA 31, zI x2], [], zH S I) Q ↔ (cond (decide (x2 < 32)) (cond (zib x2 32) (Wp 67 (0, [zA 7, zI x2, zU], [], zH S I) (fun w => Wp 70 (16, [zA 7, zA 31, zI x2], w.1.toList ++ [zI (I 31 (x2 : Int).toNat)], w.2) Q)) False) (cond (zbb 1) (Q (some (zI 1), zH S I)) False)) := (WpK_iff [2, 16] 10 70 _ Q).symm
set_option maxRecDepth 100000 in
theorem sg_X4_hasActs_16_7_31 (S : PS) (I : Nat → Nat → Int) (x2 : Int) (y0 : Int) (y1 : Int) (Q : PV1 → Prop) : Wp 70 (16, [zA 7, zA 31, zI x2], [zI y1, zI y0], zH S I) Q ↔ (cond (decide (y0 = y1)) (Wp 70 (2, [zA 7, zA 31, zI (zad x2 1)], [], zH S I) Q) (cond (zbb 0) (Q (some (zI 0), zH S I)) False)) := (WpK_iff [2, 16] 3 70 _ Q).symm
set_option maxRecDepth 100000 in
theorem sg_X4_noteActs_0_9_31 (S : PS) (I : Nat → Nat → Int) (w2 : PV) (Q : PV1 → Prop) : Wp 69 (0, [zA 9, zA 31, w2], [], zH S I) Q ↔ (Wp 69 (2, [zA 9, zA 31, zI 0], [], zH S I) Q) := (WpK_iff [2, 15] 2 69 _ Q).symm
set_option maxRecDepth 100000 in
theorem sg_X4_noteActs_2_9_31 (S : PS) (I : Nat → Nat → Int) (x2 : Int) (Q : PV1 → Prop) : Wp 69 (2, [zA 9, zA 31, zI x2], [], zH S I) Q ↔ (cond (decide (x2 < 32)) (Wp 67 (0, [zA 9, zI x2, zU], [], zH S I) (fun w => Wp 69 (15, [zA 9, zA 31, zI x2], w.1.toList ++ [zI x2, zA 31], w.2) Q)) (Q (none, zH S I))) := (WpK_iff [2, 15] 9 69 _ Q).symm
set_option maxRecDepth 100000 in
theorem sg_X4_noteActs_15_9_31_31 (S : PS) (I : Nat → Nat → Int) (x2 : Int) (y1 : Int) (y2 : Int) (Q : PV1 → Prop) : Wp 69 (15, [zA 9, zA 31, zI x2], [zI y2, zI y1, zA 31], zH S I) Q ↔ (cond (zib y1 32) (Wp 69 (2, [zA 9, zA 31, zI (zad x2 1)], [], zH S (zs2 I 31 (y1 : Int).toNat y2)) Q) False) := (WpK_iff [2, 15] 3 69 _ Q).symm
set_option maxRecDepth 100000 in
theorem sg_X4_isSafe_0_9 (S : PS) (I : Nat → Nat → Int) (w1 : PV) (w2 : PV) (Q : PV1 → Prop) : Wp 71 (0, [zA 9, w1, w2], [], zH S I) Q ↔ (Wp 71 (2, [zA 9, zI 1, w2], [], zH S I) Q) := (WpK_iff [2, 13, 37, 59] 2 71 _ Q).symm
set_option maxRecDepth 100000 in
theorem sg_X4_isSafe_2_9 (S : PS) (I : Nat → Nat → Int) (x1 : Int) (w2 : PV) (Q : PV1 → Prop) : Wp 71 (2, [zA 9, zI x1, w2], [], zH S I) Q ↔ (cond (decide (x1 < 6)) (Wp 71 (13, [zA 9, zI x1, zI 0], [], zH S I) Q) (cond (zbb 1) (Q (some (zI 1), zH S I)) False)) := (WpK_iff [2, 13, 37, 59] 7 71 _ Q).symm
set_option maxRecDepth 100000 in
theorem sg_X4_isSafe_13_9 (S : PS) (I : Nat → Nat → Int) (x1 : Int) (x2 : Int) (Q : PV1 → Prop) : Wp 71 (13, [zA 9, zI x1, zI x2], [], zH S I) Q ↔ (cond (decide (x2 < x1)) (cond (zib x2 6) (cond (zib x1 6) (Wp 35 (0, [zA 1, zI (I 10 (x2 : Int).toNat), zI (I 10 (x1 : Int).toNat)], [], zH S I) (fun w => Wp 71 (37, [zA 9, zI x1, zI x2], w.1.toList ++ [], w.2) Q)) False) False) (Wp 71 (2, [zA 9, zI (zad x1 1), zI x2], [], zH S I) Q)) := (WpK_iff [2, 13, 37, 59] 14 71 _ Q).symm
set_option maxRecDepth 100000 in
theorem sg_X4_isSafe_37_9 (S : PS) (I : Nat → Nat → Int) (x1 : Int) (x2 : Int) (y0 : Int) (Q : PV1 → Prop) : Wp 71 (37, [zA 9, zI x1, zI x2], [zI y0], zH S I) Q ↔ (cond (decide (y0 = 0)) (Wp 71 (13, [zA 9, zI x1, zI (zad x2 1)], [], zH S I) Q) (cond (zib x1 6) (cond (zib x2 6) (Wp 36 (0, [zA 1, zI (I 10 (x1 : Int).toNat), zI (I 10 (x2 : Int).toNat)], [], zH S I) (fun w => Wp 71 (59, [zA 9, zI x1, zI x2], w.1.toList ++ [], w.2) Q)) False) False)) := (WpK_iff [2, 13, 37, 59] 12 71 _ Q).symm
set_option maxRecDepth 100000 in
theorem sg_X4_isSafe_59_9 (S : PS) (I : Nat → Nat → Int) (x1 : Int) (x2 : Int) (y0 : Int) (Q : PV1 → Prop) : Wp 71 (59, [zA 9, zI x1, zI x2], [zI y0], zH S I) Q ↔ (cond (decide (y0 = 0)) (Wp 71 (13, [zA 9, zI x1, zI (zad x2 1)], [], zH S I) Q) (cond (zbb 0) (Q (some (zI 0), zH S I)) False)) := (WpK_iff [2, 13, 37, 59] 3 71 _ Q).symm
set_option maxRecDepth 100000 in
theorem sg_X4_hasActs_0_9_31 (S : PS) (I : Nat → Nat → Int) (w2 : PV) (Q : PV1 → Prop) : Wp 70 (0, [zA 9, zA 31, w2], [], zH S I) Q ↔ (Wp 70 (2, [zA 9, zA 31, zI 0], [], zH S I) Q) := (WpK_iff [2, 16] 2 70 _ Q).symm
set_option maxRecDepth 100000 in
theorem sg_X4_hasActs_2_9_31 (S : PS) (I : Nat → Nat → Int) (x2 : Int) (Q : PV1 → Prop) : Wp 70 (2, [zA 9, zA 31, zI x2], [], zH S I) Q ↔ (cond (decide (x2 < 32)) (cond (zib x2 32) (Wp 67 (0, [zA 9, zI x2, zU], [], zH S I) (fun w => Wp 70 (16, [zA 9, zA 31, zI x2], w.1.toList ++ [zI (I 31 (x2 : Int).toNat)], w.2) Q)) False) (cond (zbb 1) (Q (some (zI 1), zH S I)) False)) := (WpK_iff [2, 16] 10 70 _ Q).symm
set_option maxRecDepth 100000 in
theorem sg_X4_hasActs_16_9_31 (S : PS) (I : Nat → Nat → Int) (x2 : Int) (y0 : Int) (y1 : Int) (Q : PV1 → Prop) : Wp 70 (16, [zA 9, zA 31, zI x2], [zI y1, zI y0], zH S I) Q ↔ (cond (decide (y0 = y1)) (Wp 70 (2, [zA 9, zA 31, zI (zad x2 1)], [], zH S I) Q) (cond (zbb 0) (Q (some (zI 0), zH S I)) False)) := (WpK_iff [2, 16] 3 70 _ Q).symm
