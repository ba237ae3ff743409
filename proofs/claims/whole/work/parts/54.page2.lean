/-! dots of a page -/
theorem vl_b (c : Int32) : (vlS c).toInt = -1 ∨ 0 ≤ (vlS c).toInt ∧ (vlS c).toInt ≤ 30 := by
  unfold vlS
  by_cases h1 : (48 : Int) ≤ c.toInt ∧ c.toInt ≤ 57
  · rw [if_pos h1]
    have hc : bI c c.toInt 200 := ⟨rfl, by omega⟩
    have h48 : bI (48 : Int32) 48 48 := ⟨rfl, by decide⟩
    have := (hc.sub h48 (by decide)).1
    omega
  · rw [if_neg h1]
    by_cases h2 : (97 : Int) ≤ c.toInt ∧ c.toInt ≤ 117
    · rw [if_pos h2]
      have hc : bI c c.toInt 200 := ⟨rfl, by omega⟩
      have h97 : bI (97 : Int32) 97 97 := ⟨rfl, by decide⟩
      have h10 : bI (10 : Int32) 10 10 := ⟨rfl, by decide⟩
      have := ((hc.sub h97 (by decide)).add h10 (by decide)).1
      omega
    · rw [if_neg h2]
      exact Or.inl rfl
theorem col_c {oD : St} {n : Nat} (hn : n ≤ 14) (h2 : oD.1 2 = nI n) (hH : 0 ≤ (oD.1 1).toInt ∧ (oD.1 1).toInt ≤ 31) (x : Int32) : f_X0_isColumnFull oD x = some (if (oD.1 1).toInt ≤ (fb_ct (fun j => decide (oD.2.2 8 j = x)) n : Int) then 1 else 0) := by
  have hle := fb_ct_le (fun j => decide (oD.2.2 8 j = x)) n
  obtain ⟨s, h1, h3⟩ := lpn (fun fuel k (s : Int32) => f_X0_isColumnFull_L4 oD x (fun (v5 : Int32) => if v5 < (oD.1 1) then some (0) else some (1)) fuel s (nI k)) (fun s => if s < (oD.1 1) then some (0 : Int32) else some (1)) n (fun k s => s = nI (fb_ct (fun j => decide (oD.2.2 8 j = x)) k)) (by
    intro fuel k s hk hs
    refine ⟨_, ?_, rfl⟩
    show f_X0_isColumnFull_L4 oD x (fun (v5 : Int32) => if v5 < (oD.1 1) then some (0) else some (1)) (fuel + 1) s (nI k) = f_X0_isColumnFull_L4 oD x (fun (v5 : Int32) => if v5 < (oD.1 1) then some (0) else some (1)) fuel (nI (fb_ct (fun j => decide (oD.2.2 8 j = x)) (k + 1))) (nI (k + 1))
    rw [f_X0_isColumnFull_L4_s, h2, if_neg (nI_ge hk (by omega)), ag_n (show k < 14 by omega) (by decide), bn1_s, hs, nI_1, nI_1, fb_ct_succ]
    by_cases c : oD.2.2 8 k = x
    · rw [if_pos c, if_pos (by simp [c])]
    · rw [if_neg c, if_neg (by simp [c])]; rfl) (by
    intro fuel s hs
    show f_X0_isColumnFull_L4 oD x (fun (v5 : Int32) => if v5 < (oD.1 1) then some (0) else some (1)) (fuel + 1) s (nI n) = _
    rw [f_X0_isColumnFull_L4_s, h2, if_pos (nI_le (Nat.le_refl _) (by omega))]) fu 0 0 (by omega) (by unfold fu; omega) rfl
  have h1 : f_X0_isColumnFull oD x = if s < (oD.1 1) then some (0 : Int32) else some (1) := h1
  rw [h1, h3]
  have e : nI (fb_ct (fun j => decide (oD.2.2 8 j = x)) n) < oD.1 1 ↔ (fb_ct (fun j => decide (oD.2.2 8 j = x)) n : Int) < (oD.1 1).toInt := by rw [Int32.lt_iff_toInt_lt, nI_toInt (by omega)]
  by_cases c : (fb_ct (fun j => decide (oD.2.2 8 j = x)) n : Int) < (oD.1 1).toInt
  · rw [if_pos (e.mpr c), if_neg (by omega)]
  · rw [if_neg (fun z => c (e.mp z)), if_pos (by omega)]
theorem col_m {oM oD : St} {n : Nat} (hn : n ≤ 14) (h22 : oM.1 22 = nI n) (hx : ∀ j, j < n → oM.2.2 23 j = oD.2.2 8 j) (x : Int32) : f_X7_newIn oM x = some (nI (fb_ct (fun j => decide (oD.2.2 8 j = x)) n)) := by
  obtain ⟨s, h1, h3⟩ := lpn (fun fuel k (s : Int32) => f_X7_newIn_L4 oM x fuel s (nI k)) (fun s => some s) n (fun k s => s = nI (fb_ct (fun j => decide (oD.2.2 8 j = x)) k)) (by
    intro fuel k s hk hs
    refine ⟨_, ?_, rfl⟩
    show f_X7_newIn_L4 oM x (fuel + 1) s (nI k) = f_X7_newIn_L4 oM x fuel (nI (fb_ct (fun j => decide (oD.2.2 8 j = x)) (k + 1))) (nI (k + 1))
    rw [f_X7_newIn_L4_s, h22, if_neg (nI_ge hk (by omega)), ag_n (show k < 14 by omega) (by decide), bn1_s, hx k hk, hs, nI_1, nI_1, fb_ct_succ, Int32.add_zero]
    by_cases c : oD.2.2 8 k = x
    · rw [if_pos c, if_pos (by simp [c])]
    · rw [if_neg c, if_neg (by simp [c])]; rfl) (by
    intro fuel s hs
    show f_X7_newIn_L4 oM x (fuel + 1) s (nI n) = _
    rw [f_X7_newIn_L4_s, h22, if_pos (nI_le (Nat.le_refl _) (by omega))]) fu 0 0 (by omega) (by unfold fu; omega) rfl
  rw [h3] at h1
  exact h1
theorem newAt_m {oM oB : St} {n : Nat} (hn : n ≤ 14) (h22 : oM.1 22 = nI n) (hxy : nw oB oM n) (x y : Int32) : f_X7_isNewAt oM x y = some (if tkS oB n x y then 1 else 0) := by
  obtain ⟨s, h1, h2⟩ := lpn (fun fuel k (s : Int32) => f_X7_isNewAt_L5 oM x y fuel s (nI k)) (fun s => if s = 0 ∨ s = 1 then some s else none) n (fun k s => s = if exJ (atP oB x y) k then 1 else 0) (by
    intro fuel k s hk hs
    refine ⟨_, ?_, rfl⟩
    show f_X7_isNewAt_L5 oM x y (fuel + 1) s (nI k) = f_X7_isNewAt_L5 oM x y fuel (if exJ (atP oB x y) (k + 1) then 1 else 0) (nI (k + 1))
    rw [f_X7_isNewAt_L5_s, h22, if_neg (nI_ge hk (by omega)), ag_n (show k < 14 by omega) (by decide), ag_n (show k < 14 by omega) (by decide), bn1_s, bn1_s, (hxy k hk).1, (hxy k hk).2.1, hs, nI_1, ite10, exJ_s]
    by_cases c : exJ (atP oB x y) k = true
    · rw [if_pos c, c]; rfl
    · rw [if_neg c]
      rw [Bool.not_eq_true] at c
      rw [c, Bool.false_or]
      unfold atP
      by_cases c1 : oB.2.2 8 k = x
      · rw [if_pos c1, decide_eq_true c1]
        by_cases c2 : oB.2.2 9 k = y
        · rw [if_pos c2, decide_eq_true c2]; rfl
        · rw [if_neg c2, decide_eq_false c2]; rfl
      · rw [if_neg c1, decide_eq_false c1]; rfl) (by
    intro fuel s hs
    show f_X7_isNewAt_L5 oM x y (fuel + 1) s (nI n) = _
    rw [f_X7_isNewAt_L5_s, h22, if_pos (nI_le (Nat.le_refl _) (by omega))]) fu 0 0 (by omega) (by unfold fu; omega) rfl
  have h1 : f_X7_isNewAt oM x y = if s = 0 ∨ s = 1 then some s else none := h1
  rw [h1, h2]
  unfold tkS
  cases exJ (atP oB x y) n <;> rfl
/-- the reference's acts, by its stage -/
theorem takes_4 {oM : St} (c : Int32) {H : Int32} {n : Nat} (hn : n ≤ 14) (h18 : oM.1 18 = 4) (h22 : oM.1 22 = nI n) (h0 : n = 0 → oM.1 19 = H) (h1 : 0 < n → oM.1 21 = H) : f_X7_takes oM c = bn2 (f_X7_takesX (sI oM 21 H) c) fun x22 oM23 => if x22 = 0 ∨ x22 = 1 then some (x22, oM23) else none := by
  unfold f_X7_takes
  rw [if_neg (by rw [h18]; decide), if_neg (by rw [h18]; decide), if_neg (by rw [h18]; decide), if_neg (by rw [h18]; decide), if_pos h18, h22]
  by_cases e : n = 0
  · rw [if_pos (by rw [e]; rfl), h0 e]
  · rw [if_neg (nI_ne0 (by omega) (by omega)), h1 (by omega)]
set_option maxHeartbeats 4000000 in
theorem step_D {oP oD oM : St} {n : Nat} (h : pD oP oD oM n) (c : Int32) : stepOK oP oD oM c := by
  obtain ⟨d3, s4, hDD, q0, q1⟩ := h
  have hD0 := hDD
  obtain ⟨hw, hW, hcl, hdis, h20, h22, hnw⟩ := hDD
  have hn := hw.1
  have hHb := hw.2.2.2.1
  have hWb := hw.2.2.1
  unfold stepOK
  rw [takes_4 c hn s4 h22 q0 q1]
  unfold f_X2_takes f_X7_takesX f_X2_takesAcross
  rw [if_neg (by rw [d3]; decide), if_neg (by rw [d3]; decide), if_neg (by rw [d3]; decide), if_pos d3, val_c, bn1_s, val_m, bn1_s]
  have e1 : vlS c < 0 ↔ (vlS c).toInt < 0 := by rw [Int32.lt_iff_toInt_lt]; rfl
  have e2 : oD.1 0 ≤ vlS c ↔ (oD.1 0).toInt ≤ (vlS c).toInt := Int32.le_iff_toInt_le
  have y22 : (sI oM 21 (oD.1 1)).1 22 = nI n := h22
  have y20 : (sI oM 21 (oD.1 1)).1 20 = oD.1 0 := h20
  have y21 : (sI oM 21 (oD.1 1)).1 21 = oD.1 1 := rfl
  have hcm := col_m (oM := sI oM 21 (oD.1 1)) (oD := oD) hn y22 (fun j hj => (hnw j hj).1) (vlS c)
  have hcc := col_c hn hw.2.1 hHb (vlS c)
  have hle := fb_ct_le (fun j => decide (oD.2.2 8 j = vlS c)) n
  have k1 : kM oM (sI oM 21 (oD.1 1)) := (kM.rf oM).i _ (by omega)
  rw [y22, y20, y21, hcm, hcc, bn1_s, bn1_s, ite10, within_m, bn1_s, ite10]
  have ew : (oD.1 0 - 1).toInt = (oD.1 0).toInt - 1 := ((bI.of (oD.1 0) (m := 31) (by omega)).sub b1 (by decide)).1
  rw [ew, hw.2.1]
  by_cases c14 : n < 14
  · have n14 : ¬ (14 : Int32) ≤ nI n := nI_ge (b := 14) c14 (by decide)
    rw [if_neg n14, if_neg n14]
    by_cases q : (0 : Int) ≤ (vlS c).toInt ∧ (vlS c).toInt ≤ (oD.1 0).toInt - 1
    · rw [if_pos (show Int32.toInt 0 ≤ (vlS c).toInt ∧ (vlS c).toInt ≤ (oD.1 0).toInt - 1 from q), if_neg (by rw [e1]; omega), if_neg (by rw [e2]; omega)]
      have ec : oD.1 1 ≤ nI (fb_ct (fun j => decide (oD.2.2 8 j = vlS c)) n) ↔ (oD.1 1).toInt ≤ (fb_ct (fun j => decide (oD.2.2 8 j = vlS c)) n : Int) := by rw [Int32.le_iff_toInt_le, nI_toInt (by omega)]
      by_cases q2 : (oD.1 1).toInt ≤ (fb_ct (fun j => decide (oD.2.2 8 j = vlS c)) n : Int)
      · rw [if_pos q2, if_pos (ec.mpr q2), bn2_s, if_pos (Or.inl rfl), bn2_s, if_pos (Or.inl rfl)]
        exact ⟨false, oP, oD, _, rfl, rfl, kP.rf _, k1, fun z => by cases z⟩
      · rw [if_neg q2, if_neg (fun z => q2 (ec.mp z)), bn2_s, if_pos (Or.inr rfl), aw_n c14 (by decide), bn1_s, bn2_s, if_pos (Or.inr rfl)]
        refine ⟨true, _, oD, _, rfl, rfl, ((kP.rf oP).i _ (by omega)).i _ (by omega), ((k1.r _ (by omega)).i _ (by omega)), fun _ => Or.inr (Or.inr (Or.inr (Or.inl ⟨n, rfl, rfl, ⟨hw, hW, hcl, hdis, h20, h22, fun j hj => ?_⟩, rfl, c14, ?_, ?_, ?_⟩)))⟩
        · obtain ⟨a1, a2, a3⟩ := hnw j hj
          refine ⟨?_, a2, a3⟩
          show upd (oM.2.2 23) n (vlS c) j = _
          rw [upd_e, if_neg (by omega)]; exact a1
        · show upd (oM.2.2 23) n (vlS c) n = vlS c
          rw [upd_e, if_pos rfl]
        · exact q.1
        · show (vlS c).toInt < (oD.1 0).toInt
          omega
    · rw [if_neg (show ¬ (Int32.toInt 0 ≤ (vlS c).toInt ∧ (vlS c).toInt ≤ (oD.1 0).toInt - 1) from q), bn2_s, if_pos (Or.inl rfl)]
      refine ⟨false, oP, oD, _, ?_, rfl, kP.rf _, k1, fun z => by cases z⟩
      by_cases q5 : vlS c < 0
      · rw [if_pos q5]; rfl
      · rw [if_neg q5, if_pos (by rw [e2]; rw [e1] at q5; omega)]; rfl
  · have n14 : (14 : Int32) ≤ nI n := nI_le (a := 14) (by omega) (by omega)
    rw [if_pos n14, if_pos n14, bn2_s, if_pos (Or.inl rfl)]
    refine ⟨false, oP, oD, _, ?_, rfl, kP.rf _, k1, fun z => by cases z⟩
    by_cases q5 : vlS c < 0
    · rw [if_pos q5]; rfl
    · rw [if_neg q5]
      by_cases q6 : oD.1 0 ≤ vlS c
      · rw [if_pos q6]; rfl
      · rw [if_neg q6]; rfl
set_option maxHeartbeats 4000000 in
theorem step_E {oP oD oM : St} {n : Nat} (h : pE oP oD oM n) (c : Int32) : stepOK oP oD oM c := by
  obtain ⟨d3, s4, hDD, h21, c14, hx, hx0, hx1⟩ := h
  obtain ⟨hw, hW, hcl, hdis, h20, h22, hnw⟩ := hDD
  have hn := hw.1
  have hHb := hw.2.2.2.1
  unfold stepOK f_X2_takes f_X7_takes f_X2_takesDown f_X7_takesY
  rw [if_neg (by rw [d3]; decide), if_neg (by rw [d3]; decide), if_neg (by rw [d3]; decide), if_neg (by rw [d3]; decide), if_pos d3, val_c, bn1_s]
  rw [if_neg (by rw [s4]; decide), if_neg (by rw [s4]; decide), if_neg (by rw [s4]; decide), if_neg (by rw [s4]; decide), if_neg (by rw [s4]; decide), if_pos s4, val_m, bn1_s]
  have ew : (oD.1 1 - 1).toInt = (oD.1 1).toInt - 1 := ((bI.of (oD.1 1) (m := 31) (by omega)).sub b1 (by decide)).1
  rw [h21, h22, ag_n c14 (by decide), bn1_s, hx, newAt_m hn h22 hnw, bn1_s, ite10, within_m, bn1_s, ite10, ew, holds_c (bAny (oP.1 5)) (bAny (vlS c)), bn1_s, ite10, taken_c hn hw.2.1, bn1_s, ite10]
  by_cases q : (0 : Int) ≤ (vlS c).toInt ∧ (vlS c).toInt ≤ (oD.1 1).toInt - 1
  · have ho : onB oD (oP.1 5).toInt (vlS c).toInt = true := by
      unfold onB
      rw [decide_eq_true hx0, decide_eq_true hx1, decide_eq_true q.1, decide_eq_true (by omega)]; rfl
    rw [if_pos (show Int32.toInt 0 ≤ (vlS c).toInt ∧ (vlS c).toInt ≤ (oD.1 1).toInt - 1 from q), if_pos ho]
    by_cases q2 : tkS oD n (oP.1 5) (vlS c) = true
    · rw [if_pos q2, if_pos q2, bn2_s, if_pos (Or.inl rfl), bn2_s, if_pos (Or.inl rfl)]
      exact ⟨false, oP, oD, _, rfl, rfl, kP.rf _, kM.rf _, fun z => by cases z⟩
    · rw [if_neg q2, if_neg q2, bn2_s, if_pos (Or.inr rfl), aw_n c14 (by decide), bn1_s, bn2_s, if_pos (Or.inr rfl)]
      rw [Bool.not_eq_true] at q2
      refine ⟨true, _, oD, _, rfl, rfl, ((kP.rf oP).i _ (by omega)).i _ (by omega), ((kM.rf oM).r _ (by omega)).i _ (by omega), fun _ => Or.inr (Or.inr (Or.inr (Or.inr ⟨n, rfl, rfl, ⟨hw, hW, hcl, hdis, h20, h22, fun j hj => ?_⟩, h21, c14, hx, ?_, ho, q2⟩)))⟩
      · obtain ⟨a1, a2, a3⟩ := hnw j hj
        refine ⟨a1, ?_, a3⟩
        show upd (oM.2.2 24) n (vlS c) j = _
        rw [upd_e, if_neg (by omega)]; exact a2
      · show upd (oM.2.2 24) n (vlS c) n = vlS c
        rw [upd_e, if_pos rfl]
  · have ho : ¬ onB oD (oP.1 5).toInt (vlS c).toInt = true := fun z => by
      have := onB_e z
      omega
    rw [if_neg (show ¬ (Int32.toInt 0 ≤ (vlS c).toInt ∧ (vlS c).toInt ≤ (oD.1 1).toInt - 1) from q), if_neg ho, bn2_s, if_pos (Or.inl rfl), bn2_s, if_pos (Or.inl rfl)]
    exact ⟨false, oP, oD, _, rfl, rfl, kP.rf _, kM.rf _, fun z => by cases z⟩
/-- a dot behind the others, in draft and reference -/
theorem pD_next {oP oD oM : St} {n : Nat} (h : pF oP oD oM n) (t : Int32) (ht : -1 ≤ t.toInt ∧ t.toInt ≤ 7) : pD (sI oP 3 3) (addB oD n (oP.1 5) (oP.1 6) t) (sI (sI (sR oM 25 (upd (oM.2.2 25) n t)) 22 (nI n + 1)) 18 4) (n + 1) := by
  obtain ⟨d3, s4, hDD, h21, c14, hx, hy, ho, htk⟩ := h
  obtain ⟨hw, hW, hcl, hdis, h20, h22, hnw⟩ := hDD
  refine ⟨rfl, rfl, ⟨wB_add hw c14 ho ht, hW, hcl, ?_, h20, ?_, ?_⟩, fun z => by omega, fun _ => h21⟩
  · intro i j hij hj
    show ¬ (upd (oD.2.2 8) n (oP.1 5) i = upd (oD.2.2 8) n (oP.1 5) j ∧ upd (oD.2.2 9) n (oP.1 6) i = upd (oD.2.2 9) n (oP.1 6) j)
    rw [upd_e, upd_e, upd_e, upd_e, if_neg (show ¬ i = n by omega), if_neg (show ¬ i = n by omega)]
    by_cases e : j = n
    · rw [if_pos e, if_pos e]
      intro z
      have : tkS oD n (oP.1 5) (oP.1 6) = true := exJ_t.mpr ⟨i, by omega, by unfold atP; rw [decide_eq_true z.1, decide_eq_true z.2]; rfl⟩
      rw [htk] at this
      cases this
    · rw [if_neg e, if_neg e]; exact hdis i j hij (by omega)
  · show nI n + 1 = _
    rw [nI_1]
  · intro j hj
    show oM.2.2 23 j = upd (oD.2.2 8) n (oP.1 5) j ∧ oM.2.2 24 j = upd (oD.2.2 9) n (oP.1 6) j ∧ upd (oM.2.2 25) n t j = upd (oD.2.2 10) n t j
    rw [upd_e, upd_e, upd_e, upd_e]
    by_cases e : j = n
    · rw [if_pos e, if_pos e, if_pos e, if_pos e, e]; exact ⟨hx, hy, rfl⟩
    · rw [if_neg e, if_neg e, if_neg e, if_neg e]; exact hnw j (by omega)
set_option maxHeartbeats 4000000 in
theorem step_F {oP oD oM : St} {n : Nat} (h : pF oP oD oM n) (c : Int32) : stepOK oP oD oM c := by
  have h0 := h
  obtain ⟨d3, s4, hDD, h21, c14, hx, hy, ho, htk⟩ := h
  obtain ⟨hw, hW, hcl, hdis, h20, h22, hnw⟩ := hDD
  have hn := hw.1
  have hadd : ∀ t, f_X0_add oD (oP.1 5) (oP.1 6) t = some (1, addB oD n (oP.1 5) (oP.1 6) t) := fun t => by rw [add_c hw, if_pos ⟨ho, htk, c14⟩]
  have fc : ∀ t, (bn2 (f_X0_add oD (oP.1 5) (oP.1 6) t) fun x6 oD7 => if x6 = 0 ∨ x6 = 1 then some (x6, sI oP 3 3, oD7) else none) = some ((1 : Int32), sI oP 3 3, addB oD n (oP.1 5) (oP.1 6) t) := fun t => by rw [hadd t, bn2_s, if_pos (Or.inr rfl)]
  have fm : ∀ t, (bn1 (aw 14 oM 25 (oM.1 22) t) fun oM7 => some ((1 : Int32), sI (sI oM7 22 (oM7.1 22 + 1)) 18 4)) = some (1, sI (sI (sR oM 25 (upd (oM.2.2 25) n t)) 22 (nI n + 1)) 18 4) := fun t => by
    rw [h22, aw_n c14 (by decide), bn1_s, show (sR oM 25 (upd (oM.2.2 25) n t)).1 22 = nI n from h22]
  have km : ∀ t, kM oM (sI (sI (sR oM 25 (upd (oM.2.2 25) n t)) 22 (nI n + 1)) 18 4) := fun t => (((kM.rf oM).r _ (by omega)).i _ (by omega)).i _ (by omega)
  have kp : kP oP (sI oP 3 3) := (kP.rf oP).i _ (by omega)
  have tc : f_X2_takes oP oD c = bn3 (f_X2_takesTurn oP oD c) fun x26 oP27 oD28 => if x26 = 0 ∨ x26 = 1 then some (x26, oP27, oD28) else none := by
    unfold f_X2_takes
    rw [if_neg (by rw [d3]; decide), if_neg (by rw [d3]; decide), if_neg (by rw [d3]; decide), if_neg (by rw [d3]; decide), if_neg (by rw [d3]; decide)]
  have tm : f_X7_takes oM c = bn2 (f_X7_takesTurn oM c) fun x29 oM30 => if x29 = 0 ∨ x29 = 1 then some (x29, oM30) else none := by
    unfold f_X7_takes
    rw [if_neg (by rw [s4]; decide), if_neg (by rw [s4]; decide), if_neg (by rw [s4]; decide), if_neg (by rw [s4]; decide), if_neg (by rw [s4]; decide), if_neg (by rw [s4]; decide)]
  have fin : ∀ t : Int32, -1 ≤ t.toInt ∧ t.toInt ≤ 7 → f_X2_takesTurn oP oD c = some (1, sI oP 3 3, addB oD n (oP.1 5) (oP.1 6) t) → f_X7_takesTurn oM c = some (1, sI (sI (sR oM 25 (upd (oM.2.2 25) n t)) 22 (nI n + 1)) 18 4) → stepOK oP oD oM c := by
    intro t ht g1 g2
    unfold stepOK
    rw [tc, tm, g1, g2, bn3_s, bn2_s, if_pos (Or.inr rfl), if_pos (Or.inr rfl)]
    exact ⟨true, _, _, _, rfl, rfl, kp, km t, fun _ => Or.inr (Or.inr (Or.inl ⟨n + 1, pD_next h0 t ht⟩))⟩
  have e1 : c < 48 ↔ c.toInt < 48 := by rw [Int32.lt_iff_toInt_lt]; rfl
  have e2 : c ≤ 55 ↔ c.toInt ≤ 55 := by rw [Int32.le_iff_toInt_le]; rfl
  by_cases c45 : c = 45
  · refine fin (-1) (by decide) ?_ ?_
    · unfold f_X2_takesTurn; rw [if_pos c45, if_pos c45]; exact fc (-1)
    · unfold f_X7_takesTurn; rw [if_pos c45, if_pos c45]; exact fm (-1)
  · by_cases q : (48 : Int) ≤ c.toInt ∧ c.toInt ≤ 55
    · have hc : bI c c.toInt 200 := ⟨rfl, by omega⟩
      have h48 : bI (48 : Int32) 48 48 := ⟨rfl, by decide⟩
      have hv := (hc.sub h48 (by decide)).1
      refine fin (c - 48) (by omega) ?_ ?_
      · unfold f_X2_takesTurn; rw [if_neg c45, if_neg (by rw [e1]; omega), if_pos (by rw [e2]; omega), if_neg c45]; exact fc (c - 48)
      · unfold f_X7_takesTurn; rw [if_neg c45, within_m, if_pos (show Int32.toInt 48 ≤ c.toInt ∧ c.toInt ≤ Int32.toInt 55 from q), bn1_s, if_neg (by decide), if_neg c45]; exact fm (c - 48)
    · have g1 : f_X2_takesTurn oP oD c = some (0, oP, oD) := by
        unfold f_X2_takesTurn
        rw [if_neg c45]
        by_cases q5 : c < 48
        · rw [if_pos q5]
        · rw [if_neg q5, if_neg (by rw [e2]; rw [e1] at q5; omega)]
      have g2 : f_X7_takesTurn oM c = some (0, oM) := by
        unfold f_X7_takesTurn
        rw [if_neg c45, within_m, if_neg (show ¬ (Int32.toInt 48 ≤ c.toInt ∧ c.toInt ≤ Int32.toInt 55) from q), bn1_s, if_pos rfl]
      unfold stepOK
      rw [tc, tm, g1, g2, bn3_s, bn2_s, if_pos (Or.inl rfl), if_pos (Or.inl rfl)]
      exact ⟨false, oP, oD, oM, rfl, rfl, kP.rf _, kM.rf _, fun z => by cases z⟩
theorem step_all {oP oD oM : St} (h : PH oP oD oM) (c : Int32) : stepOK oP oD oM c := by
  rcases h with ⟨W, h⟩ | ⟨W, s, h⟩ | ⟨n, h⟩ | ⟨n, h⟩ | ⟨n, h⟩
  · exact step_A h c
  · exact step_B h c
  · exact step_D h c
  · exact step_E h c
  · exact step_F h c
/-! a page read -/
theorem read_L {p : Nat} (hp : p ≤ 50) : ∀ (d i fc fm : Nat) (oP oD oM : St), i + d = p → d < fc → d < fm → oP.1 1 = nI p → oM.1 0 = nI p → (∀ j, j < p → oP.2.2 0 j = oM.2.2 1 j) → PH oP oD oM → ∃ a oP' oD' oM', a ≤ p ∧ f_X2_read_L14 fc (nI i) oP oD = some (nI a, oP', oD') ∧ f_X7_read_L12 fm (nI i) oM = some (nI a, oM') ∧ kP oP oP' ∧ kM oM oM' ∧ (a = p → PH oP' oD' oM')
  | d, i, 0, fm, oP, oD, oM, _, h, _, _, _, _, _ => by omega
  | d, i, fc + 1, 0, oP, oD, oM, _, _, h, _, _, _, _ => by omega
  | 0, i, fc + 1, fm + 1, oP, oD, oM, hi, _, _, h1, h2, h3, h4 => by
    have e : i = p := by omega
    subst e
    rw [f_X2_read_L14_s, f_X7_read_L12_s, h1, h2, if_pos (nI_le (Nat.le_refl _) (by omega)), if_pos (nI_le (Nat.le_refl _) (by omega))]
    exact ⟨i, oP, oD, oM, Nat.le_refl _, rfl, rfl, kP.rf _, kM.rf _, fun _ => h4⟩
  | d + 1, i, fc + 1, fm + 1, oP, oD, oM, hi, hfc, hfm, h1, h2, h3, h4 => by
    rw [f_X2_read_L14_s, f_X7_read_L12_s, h1, h2, if_neg (nI_ge (show i < p by omega) (by omega)), if_neg (nI_ge (show i < p by omega) (by omega)), ag_n (show i < 50 by omega) (by decide), ag_n (show i < 50 by omega) (by decide), bn1_s, bn1_s, ← h3 i (by omega)]
    obtain ⟨b, oP1, oD1, oM1, g1, g2, g3, g4, g5⟩ := step_all h4 (oP.2.2 0 i)
    rw [g1, g2, bn3_s, bn2_s]
    cases b with
    | false =>
      rw [if_pos (by decide), if_pos (by decide)]
      exact ⟨i, oP1, oD1, oM1, by omega, rfl, rfl, g3, g4, fun z => by omega⟩
    | true =>
      rw [if_neg (by decide), if_neg (by decide), nI_1]
      obtain ⟨a, oP', oD', oM', k1, k2, k3, k4, k5, k6⟩ := read_L hp d (i + 1) fc fm oP1 oD1 oM1 (by omega) (by omega) (by omega) (by rw [g3.1, h1]) (by rw [(g4 0 (by omega)).1, h2]) (by rw [g3.2, (g4 1 (by omega)).2]; exact h3) (g5 rfl)
      exact ⟨a, oP', oD', oM', k1, k2, k3, g3.tr k4, g4.tr k5, k6⟩
theorem read_both {oP oM : St} (h : pgR oP oM) (oD : St) : ∃ p a oP' oD' oM', p ≤ 50 ∧ a ≤ p ∧ oP.1 1 = nI p ∧ oM.1 0 = nI p ∧ f_X2_read oP oD = some (nI a, oP', oD') ∧ f_X7_read oM = some (nI a, oM') ∧ kP oP oP' ∧ kM oM oM' ∧ (a = p → PH oP' oD' oM') := by
  obtain ⟨p, p1, p2, p3, p4⟩ := h
  unfold f_X2_read f_X7_read f_X0_clear
  rw [bn1_s]
  obtain ⟨a, oP', oD', oM', k1, k2, k3, k4, k5, k6⟩ := read_L p1 p 0 fu fu (sI oP 3 0) (sI (sI (sI (sI (sI (sI (sI (sI oD 0 0) 1 0) 2 0) 3 2) 4 12) 5 1) 6 4) 7 3) (sI (sI oM 18 0) 22 0) (by omega) (by unfold fu; omega) (by unfold fu; omega) p2 p3 p4 (Or.inl ⟨0, rfl, rfl, ⟨⟨rfl, rfl, rfl, rfl, rfl⟩, rfl, rfl, rfl⟩, Or.inl ⟨rfl, rfl⟩⟩)
  exact ⟨p, a, oP', oD', oM', p1, k1, p2, p3, k2, k3, ((kP.rf oP).i _ (by omega)).tr k4, (((kM.rf oM).i _ (by omega)).i _ (by omega)).tr k5, k6⟩
theorem pgR.p {oP oP' oM : St} (h : pgR oP oM) (hk : kP oP oP') : pgR oP' oM := by
  obtain ⟨p, p1, p2, p3, p4⟩ := h
  exact ⟨p, p1, by rw [hk.1]; exact p2, p3, by rw [hk.2]; exact p4⟩
theorem REL.p {oX oP oP' oR oT oB oM oM' : St} (h : REL oX oP oR oT oB oM) (hk : kP oP oP') (hm : kM oM oM') : REL oX oP' oR oT oB oM' := by
  have h2 := h.k hm (fun _ _ _ h => h)
  obtain ⟨n, h1, h2, h3, h4, h5⟩ := h2
  exact ⟨n, h1, h2, h3, h4.p hk, h5⟩
theorem op_fault {oX oP oR oT oB oM : St} (h : REL oX oP oR oT oB oM) (oD : St) : ∃ r oP' oD' oM', f_X6_fault oP oD = some (r, oP', oD') ∧ f_X7_fault oM = some (r, oM') ∧ REL oX oP' oR oT oB oM' := by
  have h0 := h
  obtain ⟨n, hw, hm, hT, hp, hR, c6, c7, c8⟩ := h
  obtain ⟨p, a, oP', oD', oM', -, -, -, -, k1, k2, k3, k4, -⟩ := read_both hp oD
  unfold f_X6_fault f_X7_fault
  rw [k1, k2, bn3_s, bn2_s]
  exact ⟨_, _, _, _, rfl, rfl, h0.p k3 k4⟩
