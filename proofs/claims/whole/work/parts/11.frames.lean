set_option maxRecDepth 100000 in
theorem fr_X6_X2_oP_oD (o : Nat → Nat) (cA : ClassId) (oX : St) (oP : St) (oD : St) (oR : St) (oT : St) (oB : St) (oC : St) (oG : St) (oP' : St) (oD' : St) : Fr (wX6 o cA oX oP oD oR oT oB oC oG) (wX2 o cA oP oD) (wX2 o cA oP' oD') (wX6 o cA oX oP' oD' oR oT oB oC oG) [1, 2, 3, 4, 5, 6] [0, 7, 8, 9, 10, 11, 12, 13, 14, 15, 16, 17, 18, 19] [0, 14, 15, 16, 17, 18, 19, 1, 2, 3, 4, 5, 6, 7, 8, 9, 10, 11, 12, 13] := ⟨rfl, rfl, rfl, rfl, by decide, rfl, rfl⟩
set_option maxRecDepth 100000 in
theorem fr_X2_X0_oD (o : Nat → Nat) (cA : ClassId) (oP : St) (oD : St) (oD' : St) : Fr (wX2 o cA oP oD) (wX0 o 3 cA oD) (wX0 o 3 cA oD') (wX2 o cA oP oD') [2, 3, 4, 5] [0, 1] [0, 1, 2, 3, 4, 5] := ⟨rfl, rfl, rfl, rfl, by decide, rfl, rfl⟩
set_option maxRecDepth 100000 in
theorem fr_X0_X0_oB (o : Nat → Nat) (i : Nat) (cA : ClassId) (oB : St) (oB' : St) : Fr (wX0 o i cA oB) (wX0 o i cA oB) (wX0 o i cA oB') (wX0 o i cA oB') [0, 1, 2, 3] [] [0, 1, 2, 3] := ⟨rfl, rfl, rfl, rfl, by decide, rfl, rfl⟩
set_option maxRecDepth 100000 in
theorem fr_X2_X2_oP_oD (o : Nat → Nat) (cA : ClassId) (oP : St) (oD : St) (oP' : St) (oD' : St) : Fr (wX2 o cA oP oD) (wX2 o cA oP oD) (wX2 o cA oP' oD') (wX2 o cA oP' oD') [0, 1, 2, 3, 4, 5] [] [0, 1, 2, 3, 4, 5] := ⟨rfl, rfl, rfl, rfl, by decide, rfl, rfl⟩
set_option maxRecDepth 100000 in
theorem fr_X2_S (o : Nat → Nat) (cA : ClassId) (oP : St) (oD : St)  : Fr (wX2 o cA oP oD) ([] : va_W) ([] : va_W) (wX2 o cA oP oD) [] [0, 1, 2, 3, 4, 5] [0, 1, 2, 3, 4, 5] := ⟨rfl, rfl, rfl, rfl, by decide, rfl, rfl⟩
set_option maxRecDepth 100000 in
theorem fr_X0_become_X0_oB (o : Nat → Nat) (i : Nat) (j : Nat) (cA : ClassId) (oB : St) (oE : St) (oB' : St) : Fr (wX0 o i cA oB ++ wX0 o j cA oE) (wX0 o i cA oB) (wX0 o i cA oB') (wX0 o i cA oB' ++ wX0 o j cA oE) [0, 1, 2, 3] [4, 5, 6, 7] [4, 5, 6, 7, 0, 1, 2, 3] := ⟨rfl, rfl, rfl, rfl, by decide, rfl, rfl⟩
set_option maxRecDepth 100000 in
theorem fr_X6_X3_oR_oT_oB_oC_oG (o : Nat → Nat) (cA : ClassId) (oX : St) (oP : St) (oD : St) (oR : St) (oT : St) (oB : St) (oC : St) (oG : St) (oR' : St) (oT' : St) (oB' : St) (oC' : St) (oG' : St) : Fr (wX6 o cA oX oP oD oR oT oB oC oG) (wX3 o cA oR oT oB oC oG) (wX3 o cA oR' oT' oB' oC' oG') (wX6 o cA oX oP oD oR' oT' oB' oC' oG') [7, 8, 9, 10, 11, 12, 13, 14, 15, 16, 17, 18, 19] [0, 1, 2, 3, 4, 5, 6] [0, 1, 2, 3, 4, 5, 6, 7, 8, 9, 10, 11, 12, 13, 14, 15, 16, 17, 18, 19] := ⟨rfl, rfl, rfl, rfl, by decide, rfl, rfl⟩
set_option maxRecDepth 100000 in
theorem fr_X6_X0_oB_oD (o : Nat → Nat) (cA : ClassId) (oX : St) (oP : St) (oD : St) (oR : St) (oT : St) (oB : St) (oC : St) (oG : St) (oB' : St) (oD' : St) : Fr (wX6 o cA oX oP oD oR oT oB oC oG) (wX0 o 7 cA oB ++ wX0 o 3 cA oD) (wX0 o 7 cA oB' ++ wX0 o 3 cA oD') (wX6 o cA oX oP oD' oR oT oB' oC oG) [14, 15, 16, 17, 3, 4, 5, 6] [0, 1, 2, 7, 8, 9, 10, 11, 12, 13, 18, 19] [0, 1, 2, 16, 17, 18, 19, 3, 4, 5, 6, 7, 8, 9, 12, 13, 14, 15, 10, 11] := ⟨rfl, rfl, rfl, rfl, by decide, rfl, rfl⟩
set_option maxRecDepth 100000 in
theorem fr_X6_X6_oX_oP_oD_oR_oT_oB_oC_oG (o : Nat → Nat) (cA : ClassId) (oX : St) (oP : St) (oD : St) (oR : St) (oT : St) (oB : St) (oC : St) (oG : St) (oX' : St) (oP' : St) (oD' : St) (oR' : St) (oT' : St) (oB' : St) (oC' : St) (oG' : St) : Fr (wX6 o cA oX oP oD oR oT oB oC oG) (wX6 o cA oX oP oD oR oT oB oC oG) (wX6 o cA oX' oP' oD' oR' oT' oB' oC' oG') (wX6 o cA oX' oP' oD' oR' oT' oB' oC' oG') [0, 1, 2, 3, 4, 5, 6, 7, 8, 9, 10, 11, 12, 13, 14, 15, 16, 17, 18, 19] [] [0, 1, 2, 3, 4, 5, 6, 7, 8, 9, 10, 11, 12, 13, 14, 15, 16, 17, 18, 19] := ⟨rfl, rfl, rfl, rfl, by decide, rfl, rfl⟩
set_option maxRecDepth 100000 in
theorem fr_X0_S (o : Nat → Nat) (i : Nat) (cA : ClassId) (oB : St)  : Fr (wX0 o i cA oB) ([] : va_W) ([] : va_W) (wX0 o i cA oB) [] [0, 1, 2, 3] [0, 1, 2, 3] := ⟨rfl, rfl, rfl, rfl, by decide, rfl, rfl⟩
set_option maxRecDepth 100000 in
theorem fr_X6_X0_oB (o : Nat → Nat) (cA : ClassId) (oX : St) (oP : St) (oD : St) (oR : St) (oT : St) (oB : St) (oC : St) (oG : St) (oB' : St) : Fr (wX6 o cA oX oP oD oR oT oB oC oG) (wX0 o 7 cA oB) (wX0 o 7 cA oB') (wX6 o cA oX oP oD oR oT oB' oC oG) [14, 15, 16, 17] [0, 1, 2, 3, 4, 5, 6, 7, 8, 9, 10, 11, 12, 13, 18, 19] [0, 1, 2, 3, 4, 5, 6, 7, 8, 9, 10, 11, 12, 13, 16, 17, 18, 19, 14, 15] := ⟨rfl, rfl, rfl, rfl, by decide, rfl, rfl⟩
set_option maxRecDepth 100000 in
theorem fr_X6_S (o : Nat → Nat) (cA : ClassId) (oX : St) (oP : St) (oD : St) (oR : St) (oT : St) (oB : St) (oC : St) (oG : St)  : Fr (wX6 o cA oX oP oD oR oT oB oC oG) ([] : va_W) ([] : va_W) (wX6 o cA oX oP oD oR oT oB oC oG) [] [0, 1, 2, 3, 4, 5, 6, 7, 8, 9, 10, 11, 12, 13, 14, 15, 16, 17, 18, 19] [0, 1, 2, 3, 4, 5, 6, 7, 8, 9, 10, 11, 12, 13, 14, 15, 16, 17, 18, 19] := ⟨rfl, rfl, rfl, rfl, by decide, rfl, rfl⟩
set_option maxRecDepth 100000 in
theorem fr_X1_S (o : Nat → Nat) (cA : ClassId) (oC : St) (oB : St)  : Fr (wX1 o cA oC oB) ([] : va_W) ([] : va_W) (wX1 o cA oC oB) [] [0, 1, 2, 3, 4] [0, 1, 2, 3, 4] := ⟨rfl, rfl, rfl, rfl, by decide, rfl, rfl⟩
set_option maxRecDepth 100000 in
theorem fr_X1_X0_oB (o : Nat → Nat) (cA : ClassId) (oC : St) (oB : St) (oB' : St) : Fr (wX1 o cA oC oB) (wX0 o 7 cA oB) (wX0 o 7 cA oB') (wX1 o cA oC oB') [1, 2, 3, 4] [0] [0, 1, 2, 3, 4] := ⟨rfl, rfl, rfl, rfl, by decide, rfl, rfl⟩
set_option maxRecDepth 100000 in
theorem fr_X1_X1_oC_oB (o : Nat → Nat) (cA : ClassId) (oC : St) (oB : St) (oC' : St) (oB' : St) : Fr (wX1 o cA oC oB) (wX1 o cA oC oB) (wX1 o cA oC' oB') (wX1 o cA oC' oB') [0, 1, 2, 3, 4] [] [0, 1, 2, 3, 4] := ⟨rfl, rfl, rfl, rfl, by decide, rfl, rfl⟩
set_option maxRecDepth 100000 in
theorem fr_X6_X1_oC_oB (o : Nat → Nat) (cA : ClassId) (oX : St) (oP : St) (oD : St) (oR : St) (oT : St) (oB : St) (oC : St) (oG : St) (oC' : St) (oB' : St) : Fr (wX6 o cA oX oP oD oR oT oB oC oG) (wX1 o cA oC oB) (wX1 o cA oC' oB') (wX6 o cA oX oP oD oR oT oB' oC' oG) [18, 14, 15, 16, 17] [0, 1, 2, 3, 4, 5, 6, 7, 8, 9, 10, 11, 12, 13, 19] [0, 1, 2, 3, 4, 5, 6, 7, 8, 9, 10, 11, 12, 13, 16, 17, 18, 19, 15, 14] := ⟨rfl, rfl, rfl, rfl, by decide, rfl, rfl⟩
set_option maxRecDepth 100000 in
theorem fr_X5_X1_oC_oB (o : Nat → Nat) (cA : ClassId) (oT : St) (oB : St) (oC : St) (oG : St) (oC' : St) (oB' : St) : Fr (wX5 o cA oT oB oC oG) (wX1 o cA oC oB) (wX1 o cA oC' oB') (wX5 o cA oT oB' oC' oG) [8, 4, 5, 6, 7] [0, 1, 2, 3, 9] [0, 1, 2, 3, 6, 7, 8, 9, 5, 4] := ⟨rfl, rfl, rfl, rfl, by decide, rfl, rfl⟩
set_option maxRecDepth 100000 in
theorem fr_X5_X5_oT_oB_oC_oG (o : Nat → Nat) (cA : ClassId) (oT : St) (oB : St) (oC : St) (oG : St) (oT' : St) (oB' : St) (oC' : St) (oG' : St) : Fr (wX5 o cA oT oB oC oG) (wX5 o cA oT oB oC oG) (wX5 o cA oT' oB' oC' oG') (wX5 o cA oT' oB' oC' oG') [0, 1, 2, 3, 4, 5, 6, 7, 8, 9] [] [0, 1, 2, 3, 4, 5, 6, 7, 8, 9] := ⟨rfl, rfl, rfl, rfl, by decide, rfl, rfl⟩
set_option maxRecDepth 100000 in
theorem fr_X4_S (o : Nat → Nat) (cA : ClassId) (oG : St) (oB : St)  : Fr (wX4 o cA oG oB) ([] : va_W) ([] : va_W) (wX4 o cA oG oB) [] [0, 1, 2, 3, 4] [0, 1, 2, 3, 4] := ⟨rfl, rfl, rfl, rfl, by decide, rfl, rfl⟩
set_option maxRecDepth 100000 in
theorem fr_X4_X4_oG_oB (o : Nat → Nat) (cA : ClassId) (oG : St) (oB : St) (oG' : St) (oB' : St) : Fr (wX4 o cA oG oB) (wX4 o cA oG oB) (wX4 o cA oG' oB') (wX4 o cA oG' oB') [0, 1, 2, 3, 4] [] [0, 1, 2, 3, 4] := ⟨rfl, rfl, rfl, rfl, by decide, rfl, rfl⟩
set_option maxRecDepth 100000 in
theorem fr_X4_X0_oB (o : Nat → Nat) (cA : ClassId) (oG : St) (oB : St) (oB' : St) : Fr (wX4 o cA oG oB) (wX0 o 7 cA oB) (wX0 o 7 cA oB') (wX4 o cA oG oB') [1, 2, 3, 4] [0] [0, 1, 2, 3, 4] := ⟨rfl, rfl, rfl, rfl, by decide, rfl, rfl⟩
set_option maxRecDepth 100000 in
theorem fr_X5_F_arroT7 (o : Nat → Nat) (cA : ClassId) (oT : St) (oB : St) (oC : St) (oG : St) (f' : Nat → Int32) : Fr (wX5 o cA oT oB oC oG) [(o 14, .inl (cA, 364, .inl (oT.2.2 7)))] [(o 14, .inl (cA, 364, .inl f'))] (wX5 o cA ((sR oT 7 f')) oB oC oG) [1] [0, 2, 3, 4, 5, 6, 7, 8, 9] [0, 9, 1, 2, 3, 4, 5, 6, 7, 8] := ⟨rfl, rfl, rfl, rfl, by decide, rfl, rfl⟩
set_option maxRecDepth 100000 in
theorem fr_X5_F_arroT8 (o : Nat → Nat) (cA : ClassId) (oT : St) (oB : St) (oC : St) (oG : St) (f' : Nat → Int32) : Fr (wX5 o cA oT oB oC oG) [(o 15, .inl (cA, 364, .inl (oT.2.2 8)))] [(o 15, .inl (cA, 364, .inl f'))] (wX5 o cA ((sR oT 8 f')) oB oC oG) [2] [0, 1, 3, 4, 5, 6, 7, 8, 9] [0, 1, 9, 2, 3, 4, 5, 6, 7, 8] := ⟨rfl, rfl, rfl, rfl, by decide, rfl, rfl⟩
set_option maxRecDepth 100000 in
theorem fr_X5_X4_oG_oB (o : Nat → Nat) (cA : ClassId) (oT : St) (oB : St) (oC : St) (oG : St) (oG' : St) (oB' : St) : Fr (wX5 o cA oT oB oC oG) (wX4 o cA oG oB) (wX4 o cA oG' oB') (wX5 o cA oT oB' oC oG') [9, 4, 5, 6, 7] [0, 1, 2, 3, 8] [0, 1, 2, 3, 6, 7, 8, 9, 4, 5] := ⟨rfl, rfl, rfl, rfl, by decide, rfl, rfl⟩
set_option maxRecDepth 100000 in
theorem fr_X5_S (o : Nat → Nat) (cA : ClassId) (oT : St) (oB : St) (oC : St) (oG : St)  : Fr (wX5 o cA oT oB oC oG) ([] : va_W) ([] : va_W) (wX5 o cA oT oB oC oG) [] [0, 1, 2, 3, 4, 5, 6, 7, 8, 9] [0, 1, 2, 3, 4, 5, 6, 7, 8, 9] := ⟨rfl, rfl, rfl, rfl, by decide, rfl, rfl⟩
set_option maxRecDepth 100000 in
theorem fr_X6_X5_oT_oB_oC_oG (o : Nat → Nat) (cA : ClassId) (oX : St) (oP : St) (oD : St) (oR : St) (oT : St) (oB : St) (oC : St) (oG : St) (oT' : St) (oB' : St) (oC' : St) (oG' : St) : Fr (wX6 o cA oX oP oD oR oT oB oC oG) (wX5 o cA oT oB oC oG) (wX5 o cA oT' oB' oC' oG') (wX6 o cA oX oP oD oR oT' oB' oC' oG') [10, 11, 12, 13, 14, 15, 16, 17, 18, 19] [0, 1, 2, 3, 4, 5, 6, 7, 8, 9] [0, 1, 2, 3, 4, 5, 6, 7, 8, 9, 10, 11, 12, 13, 14, 15, 16, 17, 18, 19] := ⟨rfl, rfl, rfl, rfl, by decide, rfl, rfl⟩
set_option maxRecDepth 100000 in
theorem fr_X3_S (o : Nat → Nat) (cA : ClassId) (oR : St) (oT : St) (oB : St) (oC : St) (oG : St)  : Fr (wX3 o cA oR oT oB oC oG) ([] : va_W) ([] : va_W) (wX3 o cA oR oT oB oC oG) [] [0, 1, 2, 3, 4, 5, 6, 7, 8, 9, 10, 11, 12] [0, 1, 2, 3, 4, 5, 6, 7, 8, 9, 10, 11, 12] := ⟨rfl, rfl, rfl, rfl, by decide, rfl, rfl⟩
set_option maxRecDepth 100000 in
theorem fr_X3_X4_oG_oB (o : Nat → Nat) (cA : ClassId) (oR : St) (oT : St) (oB : St) (oC : St) (oG : St) (oG' : St) (oB' : St) : Fr (wX3 o cA oR oT oB oC oG) (wX4 o cA oG oB) (wX4 o cA oG' oB') (wX3 o cA oR oT oB' oC oG') [12, 7, 8, 9, 10] [0, 1, 2, 3, 4, 5, 6, 11] [0, 1, 2, 3, 4, 5, 6, 9, 10, 11, 12, 7, 8] := ⟨rfl, rfl, rfl, rfl, by decide, rfl, rfl⟩
set_option maxRecDepth 100000 in
theorem fr_X3_X5_oT_oB_oC_oG (o : Nat → Nat) (cA : ClassId) (oR : St) (oT : St) (oB : St) (oC : St) (oG : St) (oT' : St) (oB' : St) (oC' : St) (oG' : St) : Fr (wX3 o cA oR oT oB oC oG) (wX5 o cA oT oB oC oG) (wX5 o cA oT' oB' oC' oG') (wX3 o cA oR oT' oB' oC' oG') [3, 4, 5, 6, 7, 8, 9, 10, 11, 12] [0, 1, 2] [0, 1, 2, 3, 4, 5, 6, 7, 8, 9, 10, 11, 12] := ⟨rfl, rfl, rfl, rfl, by decide, rfl, rfl⟩
set_option maxRecDepth 100000 in
theorem fr_X3_X3_oR_oT_oB_oC_oG (o : Nat → Nat) (cA : ClassId) (oR : St) (oT : St) (oB : St) (oC : St) (oG : St) (oR' : St) (oT' : St) (oB' : St) (oC' : St) (oG' : St) : Fr (wX3 o cA oR oT oB oC oG) (wX3 o cA oR oT oB oC oG) (wX3 o cA oR' oT' oB' oC' oG') (wX3 o cA oR' oT' oB' oC' oG') [0, 1, 2, 3, 4, 5, 6, 7, 8, 9, 10, 11, 12] [] [0, 1, 2, 3, 4, 5, 6, 7, 8, 9, 10, 11, 12] := ⟨rfl, rfl, rfl, rfl, by decide, rfl, rfl⟩
set_option maxRecDepth 100000 in
theorem fr_X7_S (o : Nat → Nat) (cA : ClassId) (oM : St)  : Fr (wX7 o cA oM) ([] : va_W) ([] : va_W) (wX7 o cA oM) [] [0, 1, 2, 3, 4, 5, 6, 7, 8, 9, 10, 11, 12, 13, 14, 15, 16] [0, 1, 2, 3, 4, 5, 6, 7, 8, 9, 10, 11, 12, 13, 14, 15, 16] := ⟨rfl, rfl, rfl, rfl, by decide, rfl, rfl⟩
set_option maxRecDepth 100000 in
theorem fr_S_S   : Fr ([] : va_W) ([] : va_W) ([] : va_W) ([] : va_W) [] [] [] := ⟨rfl, rfl, rfl, rfl, by decide, rfl, rfl⟩
set_option maxRecDepth 100000 in
theorem fr_X7_X7_oM (o : Nat → Nat) (cA : ClassId) (oM : St) (oM' : St) : Fr (wX7 o cA oM) (wX7 o cA oM) (wX7 o cA oM') (wX7 o cA oM') [0, 1, 2, 3, 4, 5, 6, 7, 8, 9, 10, 11, 12, 13, 14, 15, 16] [] [0, 1, 2, 3, 4, 5, 6, 7, 8, 9, 10, 11, 12, 13, 14, 15, 16] := ⟨rfl, rfl, rfl, rfl, by decide, rfl, rfl⟩
set_option maxRecDepth 100000 in
theorem fr_X7_F_arroM39 (o : Nat → Nat) (cA : ClassId) (oM : St) (f' : Nat → Int32) : Fr (wX7 o cA oM) [(o 13, .inl (cA, 364, .inl (oM.2.2 39)))] [(o 13, .inl (cA, 364, .inl f'))] (wX7 o cA ((sR oM 39 f'))) [13] [0, 1, 2, 3, 4, 5, 6, 7, 8, 9, 10, 11, 12, 14, 15, 16] [0, 1, 2, 3, 4, 5, 6, 7, 8, 9, 10, 11, 12, 16, 13, 14, 15] := ⟨rfl, rfl, rfl, rfl, by decide, rfl, rfl⟩
set_option maxRecDepth 100000 in
theorem fr_X7_F_arroM40 (o : Nat → Nat) (cA : ClassId) (oM : St) (f' : Nat → Int32) : Fr (wX7 o cA oM) [(o 14, .inl (cA, 364, .inl (oM.2.2 40)))] [(o 14, .inl (cA, 364, .inl f'))] (wX7 o cA ((sR oM 40 f'))) [14] [0, 1, 2, 3, 4, 5, 6, 7, 8, 9, 10, 11, 12, 13, 15, 16] [0, 1, 2, 3, 4, 5, 6, 7, 8, 9, 10, 11, 12, 13, 16, 14, 15] := ⟨rfl, rfl, rfl, rfl, by decide, rfl, rfl⟩
set_option maxRecDepth 100000 in
theorem fr_X7_F_arroM41 (o : Nat → Nat) (cA : ClassId) (oM : St) (f' : Nat → Int32) : Fr (wX7 o cA oM) [(o 15, .inl (cA, 364, .inl (oM.2.2 41)))] [(o 15, .inl (cA, 364, .inl f'))] (wX7 o cA ((sR oM 41 f'))) [15] [0, 1, 2, 3, 4, 5, 6, 7, 8, 9, 10, 11, 12, 13, 14, 16] [0, 1, 2, 3, 4, 5, 6, 7, 8, 9, 10, 11, 12, 13, 14, 16, 15] := ⟨rfl, rfl, rfl, rfl, by decide, rfl, rfl⟩
set_option maxRecDepth 100000 in
theorem fr_X7_F_arroM42 (o : Nat → Nat) (cA : ClassId) (oM : St) (f' : Nat → Int32) : Fr (wX7 o cA oM) [(o 16, .inl (cA, 364, .inl (oM.2.2 42)))] [(o 16, .inl (cA, 364, .inl f'))] (wX7 o cA ((sR oM 42 f'))) [16] [0, 1, 2, 3, 4, 5, 6, 7, 8, 9, 10, 11, 12, 13, 14, 15] [0, 1, 2, 3, 4, 5, 6, 7, 8, 9, 10, 11, 12, 13, 14, 15, 16] := ⟨rfl, rfl, rfl, rfl, by decide, rfl, rfl⟩
