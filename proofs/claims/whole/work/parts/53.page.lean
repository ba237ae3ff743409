/-! letters as numbers -/
def vlS (c : Int32) : Int32 := if (48 : Int) ≤ c.toInt ∧ c.toInt ≤ 57 then c - 48 else if (97 : Int) ≤ c.toInt ∧ c.toInt ≤ 117 then (c - 97) + 10 else -1
theorem val_c (c : Int32) : f_X2_valueOf c = some (vlS c) := by
  unfold f_X2_valueOf vlS
  have e1 : c < 48 ↔ c.toInt < 48 := by rw [Int32.lt_iff_toInt_lt]; rfl
  have e2 : c < 97 ↔ c.toInt < 97 := by rw [Int32.lt_iff_toInt_lt]; rfl
  have e3 : 117 < c ↔ 117 < c.toInt := by rw [Int32.lt_iff_toInt_lt]; rfl
  have e4 : 57 < c ↔ 57 < c.toInt := by rw [Int32.lt_iff_toInt_lt]; rfl
  simp only [e1, e2, e3, e4]
  by_cases h1 : c.toInt < 48
  · rw [if_pos h1, if_pos (show c.toInt < 97 by omega), if_neg (show ¬ ((48 : Int) ≤ c.toInt ∧ c.toInt ≤ 57) by omega), if_neg (show ¬ ((97 : Int) ≤ c.toInt ∧ c.toInt ≤ 117) by omega)]
  · rw [if_neg h1]
    by_cases h2 : 57 < c.toInt
    · rw [if_pos h2, if_neg (show ¬ ((48 : Int) ≤ c.toInt ∧ c.toInt ≤ 57) by omega)]
      by_cases h3 : c.toInt < 97
      · rw [if_pos h3, if_neg (show ¬ ((97 : Int) ≤ c.toInt ∧ c.toInt ≤ 117) by omega)]
      · rw [if_neg h3]
        by_cases h4 : 117 < c.toInt
        · rw [if_pos h4, if_neg (show ¬ ((97 : Int) ≤ c.toInt ∧ c.toInt ≤ 117) by omega)]
        · rw [if_neg h4, if_pos (show (97 : Int) ≤ c.toInt ∧ c.toInt ≤ 117 by omega)]
    · rw [if_neg h2, if_pos (show (48 : Int) ≤ c.toInt ∧ c.toInt ≤ 57 by omega)]
theorem val_m (c : Int32) : f_X7_numberBy c = some (vlS c) := by
  unfold f_X7_numberBy vlS
  rw [within_m, bn1_s, ite10, within_m, bn1_s, ite10]
  show (if (48 : Int) ≤ c.toInt ∧ c.toInt ≤ 57 then _ else if (97 : Int) ≤ c.toInt ∧ c.toInt ≤ 117 then _ else _) = _
  by_cases h1 : (48 : Int) ≤ c.toInt ∧ c.toInt ≤ 57
  · rw [if_pos h1, if_pos h1]
  · rw [if_neg h1, if_neg h1]
    by_cases h2 : (97 : Int) ≤ c.toInt ∧ c.toInt ≤ 117
    · rw [if_pos h2, if_pos h2]
    · rw [if_neg h2, if_neg h2]
/-! how far a page is read: class (its page oP, its draft oD) and reference -/
def clD (oD : St) : Prop := oD.1 3 = 2 ∧ oD.1 4 = 12 ∧ oD.1 5 = 1 ∧ oD.1 6 = 4 ∧ oD.1 7 = 3
def emp (oD oM : St) : Prop := clD oD ∧ oD.1 2 = nI 0 ∧ oD.1 1 = nI 0 ∧ oM.1 22 = nI 0
def pA (oP oD oM : St) (W : Nat) : Prop := oP.1 3 = 0 ∧ oD.1 0 = nI W ∧ emp oD oM ∧ (W = 0 ∧ oM.1 18 = 0 ∨ 4 ≤ W ∧ W ≤ 31 ∧ oM.1 18 = 2 ∧ oM.1 19 = nI W)
def pBC (oP oD oM : St) (W s : Nat) : Prop := oP.1 4 = nI s ∧ oM.1 19 = nI s ∧ oD.1 0 = nI W ∧ emp oD oM ∧ (W = 0 ∧ oM.1 18 = 1 ∨ 4 ≤ W ∧ W ≤ 31 ∧ oM.1 18 = 3 ∧ oM.1 20 = nI W) ∧ (oP.1 3 = 1 ∧ 1 ≤ s ∧ s ≤ 3 ∨ oP.1 3 = 2 ∧ 4 ≤ s ∧ s ≤ 31)
def dis (oD : St) (n : Nat) : Prop := ∀ i j, i < j → j < n → ¬ (oD.2.2 8 i = oD.2.2 8 j ∧ oD.2.2 9 i = oD.2.2 9 j)
def nw (oD oM : St) (n : Nat) : Prop := ∀ j, j < n → oM.2.2 23 j = oD.2.2 8 j ∧ oM.2.2 24 j = oD.2.2 9 j ∧ oM.2.2 25 j = oD.2.2 10 j
def DD (oD oM : St) (n : Nat) : Prop := wB oD n ∧ 0 < (oD.1 0).toInt ∧ clD oD ∧ dis oD n ∧ oM.1 20 = oD.1 0 ∧ oM.1 22 = nI n ∧ nw oD oM n
def pD (oP oD oM : St) (n : Nat) : Prop := oP.1 3 = 3 ∧ oM.1 18 = 4 ∧ DD oD oM n ∧ (n = 0 → oM.1 19 = oD.1 1) ∧ (0 < n → oM.1 21 = oD.1 1)
def pE (oP oD oM : St) (n : Nat) : Prop := oP.1 3 = 4 ∧ oM.1 18 = 5 ∧ DD oD oM n ∧ oM.1 21 = oD.1 1 ∧ n < 14 ∧ oM.2.2 23 n = oP.1 5 ∧ 0 ≤ (oP.1 5).toInt ∧ (oP.1 5).toInt < (oD.1 0).toInt
def pF (oP oD oM : St) (n : Nat) : Prop := oP.1 3 = 5 ∧ oM.1 18 = 6 ∧ DD oD oM n ∧ oM.1 21 = oD.1 1 ∧ n < 14 ∧ oM.2.2 23 n = oP.1 5 ∧ oM.2.2 24 n = oP.1 6 ∧ onB oD (oP.1 5).toInt (oP.1 6).toInt = true ∧ tkS oD n (oP.1 5) (oP.1 6) = false
def PH (oP oD oM : St) : Prop := (∃ W, pA oP oD oM W) ∨ (∃ W s, pBC oP oD oM W s) ∨ (∃ n, pD oP oD oM n) ∨ (∃ n, pE oP oD oM n) ∨ ∃ n, pF oP oD oM n
/-- the page itself stays -/
def kP (oP oP' : St) : Prop := oP'.1 1 = oP.1 1 ∧ oP'.2.2 = oP.2.2
theorem kP.rf (a : St) : kP a a := ⟨rfl, rfl⟩
theorem kP.tr {a b c : St} (h : kP a b) (h2 : kP b c) : kP a c := ⟨h2.1.trans h.1, h2.2.trans h.2⟩
theorem kP.i {a b : St} (h : kP a b) {k : Nat} (v : Int32) (hk : k ≠ 1) : kP a (sI b k v) := ⟨by rw [sI_1, if_neg (fun z => hk z.symm)]; exact h.1, h.2⟩
def stepOK (oP oD oM : St) (c : Int32) : Prop := ∃ (b : Bool) (oP' oD' oM' : St), f_X2_takes oP oD c = some (if b then 1 else 0, oP', oD') ∧ f_X7_takes oM c = some (if b then 1 else 0, oM') ∧ kP oP oP' ∧ kM oM oM' ∧ (b = true → PH oP' oD' oM')
theorem emp.k {oD oM oM' : St} (h : emp oD oM) (h2 : oM'.1 22 = oM.1 22) : emp oD oM' := ⟨h.1, h.2.1, h.2.2.1, h2.trans h.2.2.2⟩
theorem dig {c : Int32} (h : (0 : Int) ≤ (c - 48).toInt ∧ (c - 48).toInt ≤ 9) : ∃ d, d ≤ 9 ∧ c - 48 = nI d := by
  obtain ⟨d, hd, e⟩ := isJ_t (n := 10) (v := c - 48) (by unfold isJ; rw [decide_eq_true h.1, decide_eq_true (by omega)]; rfl)
  exact ⟨d, by omega, e⟩
set_option maxHeartbeats 4000000 in
theorem step_A {oP oD oM : St} {W : Nat} (h : pA oP oD oM W) (c : Int32) : stepOK oP oD oM c := by
  obtain ⟨h1, h2, h3, h4⟩ := h
  have e1 : c - 48 < 1 ↔ (c - 48).toInt < 1 := by rw [Int32.lt_iff_toInt_lt]; rfl
  have e2 : c - 48 ≤ 9 ↔ (c - 48).toInt ≤ 9 := by rw [Int32.le_iff_toInt_le]; rfl
  have e3 : 4 ≤ c - 48 ↔ 4 ≤ (c - 48).toInt := by rw [Int32.le_iff_toInt_le]; rfl
  unfold stepOK f_X7_takes
  by_cases q : (1 : Int) ≤ (c - 48).toInt ∧ (c - 48).toInt ≤ 9
  · obtain ⟨d, hd, ed⟩ := dig (c := c) (by omega)
    have hd1 : 1 ≤ d := by have := q.1; rw [ed, nI_toInt (by omega)] at this; omega
    have fc : ∃ oP', f_X2_takes oP oD c = some (1, oP', oD) ∧ oP'.1 4 = nI d ∧ kP oP oP' ∧ (oP'.1 3 = 1 ∧ 1 ≤ d ∧ d ≤ 3 ∨ oP'.1 3 = 2 ∧ 4 ≤ d ∧ d ≤ 31) := by
      unfold f_X2_takes
      rw [if_pos h1]
      unfold f_X2_takesFirstDigit
      rw [if_neg (by rw [e1]; omega), if_pos (by rw [e2]; omega)]
      by_cases q4 : 4 ≤ (c - 48).toInt
      · rw [if_pos (e3.mpr q4), bn2_s, if_pos (Or.inr rfl)]
        refine ⟨_, rfl, ed, ((kP.rf oP).i _ (by omega)).i _ (by omega), Or.inr ⟨rfl, ?_, by omega⟩⟩
        rw [ed, nI_toInt (by omega)] at q4
        omega
      · rw [if_neg (fun z => q4 (e3.mp z)), bn2_s, if_pos (Or.inr rfl)]
        refine ⟨_, rfl, ed, ((kP.rf oP).i _ (by omega)).i _ (by omega), Or.inl ⟨rfl, hd1, ?_⟩⟩
        rw [ed, nI_toInt (by omega)] at q4
        omega
    obtain ⟨oP', f1, f2, f3, f4⟩ := fc
    rw [f1]
    rcases h4 with ⟨w0, s0⟩ | ⟨w1, w2, s2, s19⟩
    · rw [if_pos s0]
      unfold f_X7_beginsSide
      rw [within_m, if_pos (show Int32.toInt 1 ≤ (c - 48).toInt ∧ (c - 48).toInt ≤ Int32.toInt 9 from q), bn1_s, if_neg (by decide), if_pos (Or.inr rfl), bn2_s, if_pos (Or.inr rfl)]
      exact ⟨true, oP', oD, _, rfl, rfl, f3, ((kM.rf oM).i _ (by omega)).i _ (by omega), fun _ => Or.inr (Or.inl ⟨W, d, f2, ed, h2, h3.k rfl, Or.inl ⟨w0, rfl⟩, f4⟩)⟩
    · rw [if_neg (by rw [s2]; decide), if_neg (by rw [s2]; decide), if_pos s2]
      unfold f_X7_beginsSide
      rw [within_m, if_pos (show Int32.toInt 1 ≤ (c - 48).toInt ∧ (c - 48).toInt ≤ Int32.toInt 9 from q), bn1_s, if_neg (by decide), if_pos (Or.inr rfl), bn2_s, if_pos (Or.inr rfl)]
      exact ⟨true, oP', oD, _, rfl, rfl, f3, (((kM.rf oM).i _ (by omega)).i _ (by omega)).i _ (by omega), fun _ => Or.inr (Or.inl ⟨W, d, f2, ed, h2, h3.k rfl, Or.inr ⟨w1, w2, rfl, s19⟩, f4⟩)⟩
  · have fc : f_X2_takes oP oD c = some (0, oP, oD) := by
      unfold f_X2_takes
      rw [if_pos h1]
      unfold f_X2_takesFirstDigit
      by_cases q5 : c - 48 < 1
      · rw [if_pos q5]; rfl
      · rw [if_neg q5, if_neg (by rw [e2]; rw [e1] at q5; omega)]; rfl
    rw [fc]
    rcases h4 with ⟨w0, s0⟩ | ⟨w1, w2, s2, s19⟩
    · rw [if_pos s0]
      unfold f_X7_beginsSide
      rw [within_m, if_neg (show ¬ (Int32.toInt 1 ≤ (c - 48).toInt ∧ (c - 48).toInt ≤ Int32.toInt 9) from q), bn1_s, if_pos rfl, if_pos (Or.inl rfl), bn2_s, if_pos (Or.inl rfl)]
      exact ⟨false, oP, oD, _, rfl, rfl, kP.rf _, ((kM.rf oM).i _ (by omega)).i _ (by omega), fun z => by cases z⟩
    · rw [if_neg (by rw [s2]; decide), if_neg (by rw [s2]; decide), if_pos s2]
      unfold f_X7_beginsSide
      rw [within_m, if_neg (show ¬ (Int32.toInt 1 ≤ (c - 48).toInt ∧ (c - 48).toInt ≤ Int32.toInt 9) from q), bn1_s, if_pos rfl, if_pos (Or.inl rfl), bn2_s, if_pos (Or.inl rfl)]
      exact ⟨false, oP, oD, _, rfl, rfl, kP.rf _, (((kM.rf oM).i _ (by omega)).i _ (by omega)).i _ (by omega), fun z => by cases z⟩
/-- the reference's act at a side that goes on: by the sign -/
theorem goes_m {oM : St} (c : Int32) {W : Nat} (h : W = 0 ∧ oM.1 18 = 1 ∨ 4 ≤ W ∧ W ≤ 31 ∧ oM.1 18 = 3 ∧ oM.1 20 = nI W) : f_X7_takes oM c = bn2 (f_X7_goesOnSide oM c (if W = 0 then 120 else 58)) fun x6 oM7 => if x6 = 0 ∨ x6 = 1 then some (x6, oM7) else none := by
  unfold f_X7_takes
  rcases h with ⟨w0, s0⟩ | ⟨w1, w2, s2, s19⟩
  · rw [if_neg (by rw [s0]; decide), if_pos s0, if_pos w0]
  · rw [if_neg (by rw [s2]; decide), if_neg (by rw [s2]; decide), if_neg (by rw [s2]; decide), if_pos s2, if_neg (by omega)]
set_option maxHeartbeats 4000000 in
theorem step_B {oP oD oM : St} {W s : Nat} (h : pBC oP oD oM W s) (c : Int32) : stepOK oP oD oM c := by
  obtain ⟨h1, h2, h3, h4, h5, h6⟩ := h
  unfold stepOK
  rw [goes_m c h5]
  unfold f_X7_goesOnSide f_X2_takes
  rcases h6 with ⟨d1, s1, s3⟩ | ⟨d2, s4, s31⟩
  · -- another digit
    rw [if_neg (by rw [d1]; decide), if_pos d1]
    unfold f_X2_takesSecondDigit
    have e1 : c - 48 < 0 ↔ (c - 48).toInt < 0 := by rw [Int32.lt_iff_toInt_lt]; rfl
    have e2 : 9 < c - 48 ↔ 9 < (c - 48).toInt := by rw [Int32.lt_iff_toInt_lt]; rfl
    have hlt : oM.1 19 < 4 := by rw [h2]; exact nI_lt (b := 4) (by omega) (by decide)
    have hnle : ¬ 4 ≤ oM.1 19 := by rw [h2]; exact nI_ge (b := 4) (by omega) (by decide)
    by_cases cs : c = if W = 0 then 120 else 58
    · rw [if_pos cs, if_pos hlt]
      have big : 9 < c - 48 := by
        rw [cs]
        split <;> decide
      have nn : ¬ c - 48 < 0 := by rw [e1]; rw [e2] at big; omega
      rw [if_neg nn, if_pos big, bn2_s, if_pos (Or.inl rfl), bn2_s, if_pos (Or.inl rfl)]
      exact ⟨false, oP, oD, _, rfl, rfl, kP.rf _, (kM.rf oM).i _ (by omega), fun z => by cases z⟩
    · rw [if_neg cs, if_neg hnle, within_m, bn1_s, ite10]
      by_cases q : (0 : Int) ≤ (c - 48).toInt ∧ (c - 48).toInt ≤ 9
      · obtain ⟨d, hd, ed⟩ := dig q
        rw [if_pos (show Int32.toInt 0 ≤ (c - 48).toInt ∧ (c - 48).toInt ≤ Int32.toInt 9 from q), if_neg (by rw [e1]; omega), if_neg (by rw [e2]; omega), within_m, bn1_s, ite10, h1, h2, ed, show (10 : Int32) = nI 10 from rfl, nI_mul, nI_add]
        have v : (nI (10 * s + d)).toInt = ((10 * s + d : Nat) : Int) := nI_toInt (by omega)
        by_cases q2 : 10 * s + d ≤ 31
        · rw [if_pos (show nI (10 * s + d) ≤ (31 : Int32) from nI_le (b := 31) q2 (by decide)), bn2_s, if_pos (Or.inr rfl), v, if_pos (show Int32.toInt (nI 10) ≤ ((10 * s + d : Nat) : Int) ∧ ((10 * s + d : Nat) : Int) ≤ Int32.toInt 31 from ⟨by show (10 : Int) ≤ _; omega, by show _ ≤ (31 : Int); omega⟩), bn2_s, if_pos (Or.inr rfl)]
          refine ⟨true, _, oD, _, rfl, rfl, ((kP.rf oP).i _ (by omega)).i _ (by omega), (kM.rf oM).i _ (by omega), fun _ => Or.inr (Or.inl ⟨W, 10 * s + d, rfl, rfl, h3, h4.k rfl, ?_, Or.inr ⟨rfl, by omega, by omega⟩⟩)⟩
          exact h5
        · rw [if_neg (show ¬ nI (10 * s + d) ≤ (31 : Int32) from nI_ge (a := 31) (by omega) (by omega)), bn2_s, if_pos (Or.inl rfl), v, if_neg (show ¬ (Int32.toInt (nI 10) ≤ ((10 * s + d : Nat) : Int) ∧ ((10 * s + d : Nat) : Int) ≤ Int32.toInt 31) from fun z => by have z2 : ((10 * s + d : Nat) : Int) ≤ (31 : Int) := z.2; omega), bn2_s, if_pos (Or.inl rfl)]
          exact ⟨false, oP, oD, _, rfl, rfl, kP.rf _, (kM.rf oM).i _ (by omega), fun z => by cases z⟩
      · rw [if_neg (show ¬ (Int32.toInt 0 ≤ (c - 48).toInt ∧ (c - 48).toInt ≤ Int32.toInt 9) from q), bn2_s, if_pos (Or.inl rfl)]
        refine ⟨false, oP, oD, _, ?_, rfl, kP.rf _, (kM.rf oM).i _ (by omega), fun z => by cases z⟩
        by_cases q5 : c - 48 < 0
        · rw [if_pos q5]; rfl
        · rw [if_neg q5, if_pos (by rw [e2]; rw [e1] at q5; omega)]; rfl
  · -- the sign
    rw [if_neg (by rw [d2]; decide), if_neg (by rw [d2]; decide), if_pos d2]
    unfold f_X2_takesMark
    have hlt : ¬ oM.1 19 < 4 := by rw [h2]; exact nI_nlt (b := 4) (by omega) (by omega)
    have hle : 4 ≤ oM.1 19 := by rw [h2]; exact nI_le (a := 4) (by omega) (by omega)
    rcases h5 with ⟨w0, st⟩ | ⟨w1, w2, st, s20⟩
    · rw [if_pos (show oD.1 0 = 0 by rw [h3, w0]; rfl), if_pos w0]
      by_cases cs : c = 120
      · rw [if_pos cs, if_pos cs, if_neg hlt, bn3_s, if_pos (Or.inr rfl), bn2_s, if_pos (Or.inr rfl)]
        refine ⟨true, _, _, _, rfl, rfl, (kP.rf oP).i _ (by omega), (kM.rf oM).i _ (by omega), fun _ => Or.inl ⟨s, rfl, h1, h4, Or.inr ⟨s4, s31, ?_, h2⟩⟩⟩
        show oM.1 18 + 1 = 2
        rw [st]; rfl
      · rw [if_neg cs, if_neg cs, if_pos hle, bn3_s, if_pos (Or.inl rfl), bn2_s, if_pos (Or.inl rfl)]
        exact ⟨false, oP, oD, _, rfl, rfl, kP.rf _, (kM.rf oM).i _ (by omega), fun z => by cases z⟩
    · rw [if_neg (show ¬ oD.1 0 = 0 by rw [h3]; exact nI_ne0 (by omega) (by omega)), if_neg (show ¬ W = 0 by omega)]
      by_cases cs : c = 58
      · rw [if_pos cs, if_pos cs, if_neg hlt, bn3_s, if_pos (Or.inr rfl), bn2_s, if_pos (Or.inr rfl)]
        refine ⟨true, _, _, _, rfl, rfl, (kP.rf oP).i _ (by omega), (kM.rf oM).i _ (by omega), fun _ => Or.inr (Or.inr (Or.inl ⟨0, rfl, ?_, ?_, fun _ => ?_, fun z => by omega⟩))⟩
        · show oM.1 18 + 1 = 4
          rw [st]; rfl
        · obtain ⟨⟨k3, k4, k5, k6, k7⟩, e2, e1, e22⟩ := h4
          have b0' : (oD.1 0).toInt = W := by rw [h3, nI_toInt (by omega)]
          have b1' : (oP.1 4).toInt = s := by rw [h1, nI_toInt (by omega)]
          refine ⟨⟨by omega, e2, ?_, ?_, ?_, ?_, ?_, ?_, ?_, fun j hj => by omega, fun _ => rfl, fun _ => ⟨?_, ?_⟩⟩, ?_, ⟨k3, k4, k5, k6, k7⟩, fun i j _ hj => by omega, ?_, e22, fun j hj => by omega⟩
          · show 0 ≤ (oD.1 0).toInt ∧ (oD.1 0).toInt ≤ 31
            omega
          · show 0 ≤ (oP.1 4).toInt ∧ (oP.1 4).toInt ≤ 31
            omega
          · show 0 ≤ (oD.1 3).toInt ∧ (oD.1 3).toInt ≤ 22
            rw [k3]; decide
          · show 0 ≤ (oD.1 4).toInt ∧ (oD.1 4).toInt ≤ 22
            rw [k4]; decide
          · show 0 ≤ (oD.1 5).toInt ∧ (oD.1 5).toInt ≤ 4
            rw [k5]; decide
          · show 0 ≤ (oD.1 6).toInt ∧ (oD.1 6).toInt ≤ 14
            rw [k6]; decide
          · show 0 ≤ (oD.1 7).toInt ∧ (oD.1 7).toInt ≤ 8
            rw [k7]; decide
          · show 2 ≤ (oD.1 6).toInt
            rw [k6]; decide
          · show 1 ≤ (oP.1 4).toInt
            omega
          · show 0 < (oD.1 0).toInt
            omega
          · show oM.1 20 = oD.1 0
            rw [s20, h3]
        · show oM.1 19 = oP.1 4
          rw [h1, h2]
      · rw [if_neg cs, if_neg cs, if_pos hle, bn3_s, if_pos (Or.inl rfl), bn2_s, if_pos (Or.inl rfl)]
        exact ⟨false, oP, oD, _, rfl, rfl, kP.rf _, (kM.rf oM).i _ (by omega), fun z => by cases z⟩
