/-! whether three dots vote, and for what -/
def onB (oB : St) (x y : Int) : Bool := decide (0 ≤ x) && decide (x < (oB.1 0).toInt) && decide (0 ≤ y) && decide (y < (oB.1 1).toInt)
def cCX (oB : St) (a b c : Nat) : Int := cMX oB a b c / cD oB a b c
def cCY (oB : St) (a b c : Nat) : Int := cMY oB a b c / cD oB a b c
def agT (oB : St) (j a b c : Nat) : Bool := agS oB j (cMX oB a b c) (cMY oB a b c) (cD oB a b c)
def vS (oB : St) (a b c : Nat) : Bool := decide (cD oB a b c ≠ 0) && (onB oB (cCX oB a b c) (cCY oB a b c) && (agT oB a a b c && agT oB b a b c && agT oB c a b c && (decide ((oB.1 3).toInt ≤ (rS oB a b c : Int)) && decide ((rS oB a b c : Int) ≤ (oB.1 4).toInt))))
def kS (oB : St) (a b c : Nat) : Nat := rS oB a b c * 1024 + (cCY oB a b c).toNat * 32 + (cCX oB a b c).toNat
theorem holds_c {oB : St} {x y : Int32} {X Y : Int} {m k : Nat} (hx : bI x X m) (hy : bI y Y k) : f_X0_holds oB x y = some (if onB oB X Y then 1 else 0) := by
  unfold f_X0_holds onB
  have e1 : x < 0 ↔ X < 0 := hx.lt0
  have e2 : oB.1 0 ≤ x ↔ (oB.1 0).toInt ≤ X := by rw [Int32.le_iff_toInt_le, hx.1]
  have e3 : y < 0 ↔ Y < 0 := hy.lt0
  have e4 : oB.1 1 ≤ y ↔ (oB.1 1).toInt ≤ Y := by rw [Int32.le_iff_toInt_le, hy.1]
  simp only [e1, e2, e3, e4]
  by_cases h1 : X < 0
  · rw [if_pos h1, decide_eq_false (show ¬ 0 ≤ X by omega)]; rfl
  · rw [if_neg h1, decide_eq_true (show 0 ≤ X by omega)]
    by_cases h2 : (oB.1 0).toInt ≤ X
    · rw [if_pos h2, decide_eq_false (show ¬ X < (oB.1 0).toInt by omega)]; rfl
    · rw [if_neg h2, decide_eq_true (show X < (oB.1 0).toInt by omega)]
      by_cases h3 : Y < 0
      · rw [if_pos h3, decide_eq_false (show ¬ 0 ≤ Y by omega)]; rfl
      · rw [if_neg h3, decide_eq_true (show 0 ≤ Y by omega)]
        by_cases h4 : (oB.1 1).toInt ≤ Y
        · rw [if_pos h4, decide_eq_false (show ¬ Y < (oB.1 1).toInt by omega)]; rfl
        · rw [if_neg h4, decide_eq_true (show Y < (oB.1 1).toInt by omega)]; rfl
theorem within_m {v a b : Int32} : f_X7_within v a b = some (if a.toInt ≤ v.toInt ∧ v.toInt ≤ b.toInt then 1 else 0) := by
  unfold f_X7_within
  simp only [Int32.lt_iff_toInt_lt]
  by_cases h1 : v.toInt < a.toInt
  · rw [if_pos h1, if_neg (by omega)]
  · rw [if_neg h1]
    by_cases h2 : b.toInt < v.toInt
    · rw [if_pos h2, if_neg (by omega)]
    · rw [if_neg h2, if_pos (by omega)]
theorem ison_m {oB oM : St} {n : Nat} (hw : wB oB n) (h2 : oM.1 2 = oB.1 0) (h3 : oM.1 3 = oB.1 1) {x y : Int32} {X Y : Int} {m k : Nat} (hx : bI x X m) (hy : bI y Y k) : f_X7_isOn oM x y = some (if onB oB X Y then 1 else 0) := by
  unfold f_X7_isOn
  obtain ⟨-, -, hW, hH, -⟩ := hw
  have w1 : bI (oM.1 2 - 1) ((oB.1 0).toInt - 1) 32 := by
    rw [h2]
    exact (bI.of (oB.1 0) (m := 31) (by omega)).sub b1 (by decide)
  have w2 : bI (oM.1 3 - 1) ((oB.1 1).toInt - 1) 32 := by
    rw [h3]
    exact (bI.of (oB.1 1) (m := 31) (by omega)).sub b1 (by decide)
  rw [within_m, within_m, bn1_s, bn1_s, w1.1, w2.1, hx.1, hy.1]
  show (if (if (0 : Int) ≤ X ∧ X ≤ (oB.1 0).toInt - 1 then (1 : Int32) else 0) = 0 then some 0 else if (if (0 : Int) ≤ Y ∧ Y ≤ (oB.1 1).toInt - 1 then (1 : Int32) else 0) = 0 then some 0 else some 1) = _
  unfold onB
  by_cases h1 : (0 : Int) ≤ X ∧ X ≤ (oB.1 0).toInt - 1
  · rw [if_pos h1, if_neg (by decide), decide_eq_true (show 0 ≤ X by omega), decide_eq_true (show X < (oB.1 0).toInt by omega)]
    by_cases h2 : (0 : Int) ≤ Y ∧ Y ≤ (oB.1 1).toInt - 1
    · rw [if_pos h2, if_neg (by decide), decide_eq_true (show 0 ≤ Y by omega), decide_eq_true (show Y < (oB.1 1).toInt by omega)]; rfl
    · rw [if_neg h2, if_pos rfl]
      by_cases h3 : (0 : Int) ≤ Y
      · rw [decide_eq_false (show ¬ Y < (oB.1 1).toInt by omega), Bool.and_false]; rfl
      · rw [decide_eq_false h3, Bool.and_false, Bool.false_and]; rfl
  · rw [if_neg h1, if_pos rfl]
    by_cases h3 : (0 : Int) ≤ X
    · rw [decide_eq_false (show ¬ X < (oB.1 0).toInt by omega), Bool.and_false, Bool.false_and, Bool.false_and]; rfl
    · rw [decide_eq_false h3, Bool.false_and, Bool.false_and, Bool.false_and]; rfl
theorem cell_c {oB oC : St} {a b c : Nat} (hC : isC oC oB a b c) (hD : cD oB a b c ≠ 0) : ∃ x y, f_X1_cellX oC = some x ∧ f_X1_cellY oC = some y ∧ bI x (cCX oB a b c) 216000 ∧ bI y (cCY oB a b c) 216000 := by
  obtain ⟨e1, -, -, hd, hx, hy⟩ := hC
  have hp : 0 < cD oB a b c := by have := cD_nn oB a b c; omega
  obtain ⟨x, g1, g2⟩ := fl_c hx hd hp (by decide)
  obtain ⟨y, g3, g4⟩ := fl_c hy hd hp (by decide)
  have h0 : ¬ oC.1 4 = 0 := by rw [hd.eqi b0]; exact hD
  refine ⟨x, y, ?_, ?_, g2, g4⟩
  · unfold f_X1_cellX; rw [if_neg h0, g1]; rfl
  · unfold f_X1_cellY; rw [if_neg h0, g3]; rfl
theorem cell_m {oB oM : St} {a b c : Nat} (hC : isM oM oB a b c) (hD : cD oB a b c ≠ 0) : ∃ x y, f_X7_floor (oM.2.1 31) (oM.2.1 30) = some x ∧ f_X7_floor (oM.2.1 32) (oM.2.1 30) = some y ∧ bI x (cCX oB a b c) 216000 ∧ bI y (cCY oB a b c) 216000 := by
  obtain ⟨hd, hx, hy⟩ := hC
  have hp : 0 < cD oB a b c := by have := cD_nn oB a b c; omega
  obtain ⟨x, g1, g2⟩ := fl_m hx hd hp (by decide)
  obtain ⟨y, g3, g4⟩ := fl_m hy hd hp (by decide)
  exact ⟨x, y, g1, g3, g2, g4⟩
def bN (b : Bool) : Nat := if b then 1 else 0
theorem agr3_c {oB oC : St} {n a b c : Nat} (hw : wB oB n) (ha : a < n) (hb : b < n) (hc : c < n) (hC : isC oC oB a b c) : f_X1_agreeing oC oB = some (nI (bN (agT oB a a b c) + bN (agT oB b a b c) + bN (agT oB c a b c))) := by
  obtain ⟨e1, e2, e3, hd, hx, hy⟩ := hC
  unfold f_X1_agreeing
  rw [e1, e2, e3, ag_c hw ha hx hy hd, ag_c hw hb hx hy hd, ag_c hw hc hx hy hd]
  show _ = some (nI (bN (agS oB a (cMX oB a b c) (cMY oB a b c) (cD oB a b c)) + bN (agS oB b (cMX oB a b c) (cMY oB a b c) (cD oB a b c)) + bN (agS oB c (cMX oB a b c) (cMY oB a b c) (cD oB a b c))))
  cases agS oB a (cMX oB a b c) (cMY oB a b c) (cD oB a b c) <;> cases agS oB b (cMX oB a b c) (cMY oB a b c) (cD oB a b c) <;> cases agS oB c (cMX oB a b c) (cMY oB a b c) (cD oB a b c) <;> rfl
theorem agr3_m {oB oM : St} {n a b c : Nat} (hw : wB oB n) (hm : mB oM oB n) (ha : a < n) (hb : b < n) (hc : c < n) (hC : isM oM oB a b c) : f_X7_agreeing oM (nI a) (nI b) (nI c) = some (nI (bN (agT oB a a b c) + bN (agT oB b a b c) + bN (agT oB c a b c))) := by
  obtain ⟨hd, hx, hy⟩ := hC
  unfold f_X7_agreeing
  rw [ag_m hw hm ha hx hy hd, ag_m hw hm hb hx hy hd, ag_m hw hm hc hx hy hd]
  show _ = some (nI (bN (agS oB a (cMX oB a b c) (cMY oB a b c) (cD oB a b c)) + bN (agS oB b (cMX oB a b c) (cMY oB a b c) (cD oB a b c)) + bN (agS oB c (cMX oB a b c) (cMY oB a b c) (cD oB a b c))))
  cases agS oB a (cMX oB a b c) (cMY oB a b c) (cD oB a b c) <;> cases agS oB b (cMX oB a b c) (cMY oB a b c) (cD oB a b c) <;> cases agS oB c (cMX oB a b c) (cMY oB a b c) (cD oB a b c) <;> rfl
theorem shl_10 : ∀ r, r < 32 → nI r <<< ((10 : Int32) &&& 31) = nI (2 ^ 10 * r) := by decide +kernel
theorem shl_5 : ∀ r, r < 32 → nI r <<< ((5 : Int32) &&& 31) = nI (2 ^ 5 * r) := by decide +kernel
theorem key_of {r y x : Nat} (hr : r < 32) (hy : y < 32) (hx : x < 32) : f_X6_keyOf (nI x) (nI y) (nI r) = some (nI (r * 1024 + y * 32 + x)) := by
  unfold f_X6_keyOf
  have e : (2 : Nat) ^ 10 * r = 2 ^ 5 * (32 * r) := by omega
  rw [shl_10 r hr, shl_5 y hy, fa_or_sum r (show 2 ^ 5 * y < 2 ^ 10 by omega), show 2 ^ 10 * r + 2 ^ 5 * y = 2 ^ 5 * (32 * r + y) by omega, fa_or_sum _ (show x < 2 ^ 5 by omega)]
  congr 2
  omega
theorem nI_shr {a s : Nat} (ha : a < 2 ^ 31) (hs : s < 32) : nI a >>> (nI s &&& 31) = nI (a / 2 ^ s) := by
  have hd : a / 2 ^ s ≤ a := Nat.div_le_self _ _
  apply Int32.toInt_inj.mp
  have e : (nI a >>> (nI s &&& 31)).toInt = (nI a).toInt >>> s := by
    have h := s_l s hs
    show ((nI a).toBitVec.sshiftRight ((nI s &&& 31).toBitVec.smod 32).toNat).toInt = _
    rw [h, BitVec.toInt_sshiftRight]
    rfl
  rw [e, Int.shiftRight_eq_div_pow, nI_toInt ha, nI_toInt (by omega)]
  rfl
theorem nI_and31 (a : Nat) : nI a &&& 31 = nI (a % 32) := fa_mask a 5
theorem keyX_n (k : Nat) : f_X6_keyX (nI k) = some (nI (k % 32)) := by
  unfold f_X6_keyX
  rw [nI_and31]
theorem keyY_n {k : Nat} (h : k < 2 ^ 31) : f_X6_keyY (nI k) = some (nI (k / 32 % 32)) := by
  unfold f_X6_keyY
  rw [show (5 : Int32) = nI 5 from rfl, nI_shr h (by omega), nI_and31]
theorem keyR_n {k : Nat} (h : k < 2 ^ 31) : f_X6_keyRadius (nI k) = some (nI (k / 1024 % 32)) := by
  unfold f_X6_keyRadius
  rw [show (10 : Int32) = nI 10 from rfl, nI_shr h (by omega), nI_and31]
/-- the parts of a key -/
theorem vS_e {oB : St} {n a b c : Nat} (hw : wB oB n) (h : vS oB a b c = true) : cD oB a b c ≠ 0 ∧ onB oB (cCX oB a b c) (cCY oB a b c) = true ∧ agT oB a a b c = true ∧ agT oB b a b c = true ∧ agT oB c a b c = true ∧ (oB.1 3).toInt ≤ (rS oB a b c : Int) ∧ (rS oB a b c : Int) ≤ (oB.1 4).toInt ∧ rS oB a b c ≤ 22 ∧ (cCX oB a b c).toNat < 31 ∧ (cCY oB a b c).toNat < 31 ∧ 0 ≤ cCX oB a b c ∧ 0 ≤ cCY oB a b c := by
  unfold vS at h
  simp only [Bool.and_eq_true, decide_eq_true_eq] at h
  obtain ⟨h1, h2, ⟨⟨h3, h4⟩, h5⟩, h6, h7⟩ := h
  have h8 := h2
  unfold onB at h8
  simp only [Bool.and_eq_true, decide_eq_true_eq] at h8
  obtain ⟨-, -, hW, hH, -, hh, -⟩ := hw
  exact ⟨h1, h2, h3, h4, h5, h6, h7, by omega, by omega, by omega, by omega, by omega⟩
set_option maxHeartbeats 4000000 in
theorem vote_c {oB oC : St} {n a b c : Nat} (hw : wB oB n) (ha : a < n) (hb : b < n) (hc : c < n) (hC : isC oC oB a b c) (hD : cD oB a b c ≠ 0) : f_X1_vote oC oB = some (if vS oB a b c then nI (kS oB a b c) else -1) := by
  obtain ⟨x, y, g1, g2, hx, hy⟩ := cell_c hC hD
  have hl : f_X1_isLine oC = some 0 := by
    unfold f_X1_isLine
    rw [if_neg (by rw [hC.2.2.2.1.eqi b0]; exact hD)]
  have hrad := rad_c hw ha hb hc hC hD
  unfold f_X1_vote
  rw [hl, g1, g2, bn1_s, if_pos rfl, bn1_s, bn1_s, holds_c hx hy, bn1_s, agr3_c hw ha hb hc hC, hrad]
  by_cases hv : vS oB a b c = true
  · obtain ⟨-, h2, h3, h4, h5, h6, h7, h8, h9, h10, h11, h12⟩ := vS_e hw hv
    rw [hv, h2, h3, h4, h5]
    have ex : x = nI (cCX oB a b c).toNat := hx.toN (by omega) (by omega)
    have ey : y = nI (cCY oB a b c).toNat := hy.toN (by omega) (by omega)
    rw [if_neg (by decide), bn1_s, if_pos (by decide), bn1_s, if_neg (by rw [Int32.lt_iff_toInt_lt, nI_toInt (by omega)]; omega), if_pos (by rw [Int32.le_iff_toInt_le, nI_toInt (by omega)]; omega)]
    rw [ex, ey, key_of (by omega) (by omega) (by omega)]
    rfl
  · rw [if_neg hv]
    by_cases h2 : onB oB (cCX oB a b c) (cCY oB a b c) = true
    · rw [h2, if_neg (by decide), bn1_s]
      by_cases h3 : agT oB a a b c = true ∧ agT oB b a b c = true ∧ agT oB c a b c = true
      · obtain ⟨h3, h4, h5⟩ := h3
        have hr9 := rt_le9 hw ha hb hc hD
        rw [h3, h4, h5, if_pos (by decide), bn1_s]
        by_cases h6 : (oB.1 3).toInt ≤ (rS oB a b c : Int)
        · rw [if_neg (by rw [Int32.lt_iff_toInt_lt, nI_toInt (by omega)]; omega)]
          by_cases h7 : (rS oB a b c : Int) ≤ (oB.1 4).toInt
          · exact absurd (by unfold vS; simp only [Bool.and_eq_true, decide_eq_true_eq]; exact ⟨hD, h2, ⟨⟨h3, h4⟩, h5⟩, h6, h7⟩) hv
          · rw [if_neg (by rw [Int32.le_iff_toInt_le, nI_toInt (by omega)]; omega)]
        · rw [if_pos (by rw [Int32.lt_iff_toInt_lt, nI_toInt (by omega)]; omega)]
      · have h9 : bN (agT oB a a b c) + bN (agT oB b a b c) + bN (agT oB c a b c) < 3 := by
          revert h3
          cases agT oB a a b c <;> cases agT oB b a b c <;> cases agT oB c a b c <;> decide
        rw [if_neg (by show ¬ nI 3 ≤ _; exact nI_ge h9 (by decide))]
    · rw [Bool.not_eq_true] at h2
      rw [h2]
      rfl
def mV (oM oM' : St) : Prop := oM'.2 = oM.2 ∧ ∀ k, k < 33 ∨ 35 < k → oM'.1 k = oM.1 k
theorem mV.k {oM oM' : St} (h : mV oM oM') : kM oM oM' := fun k hk => ⟨h.2 k (by omega), by rw [h.1]⟩
theorem mV2 (oM : St) (x y : Int32) : mV oM (sI (sI oM 33 x) 34 y) := ⟨rfl, fun k hk => by rw [sI_1, sI_1, if_neg (by omega), if_neg (by omega)]⟩
theorem mV3 (oM : St) (x y z : Int32) : mV oM (sI (sI (sI oM 33 x) 34 y) 35 z) := ⟨rfl, fun k hk => by rw [sI_1, sI_1, sI_1, if_neg (by omega), if_neg (by omega), if_neg (by omega)]⟩
set_option maxHeartbeats 4000000 in
theorem vote_m {oB oM : St} {n a b c : Nat} (hw : wB oB n) (hm : mB oM oB n) (ha : a < n) (hb : b < n) (hc : c < n) (hC : isM oM oB a b c) (hD : cD oB a b c ≠ 0) : ∃ oM', f_X7_isVote oM (nI a) (nI b) (nI c) = some (if vS oB a b c then 1 else 0, oM') ∧ mV oM oM' ∧ (vS oB a b c = true → oM'.1 33 = nI (cCX oB a b c).toNat ∧ oM'.1 34 = nI (cCY oB a b c).toNat ∧ oM'.1 35 = nI (rS oB a b c)) := by
  obtain ⟨x, y, g1, g2, hx, hy⟩ := cell_m hC hD
  have hm2 : mB (sI (sI oM 33 x) 34 y) oB n := hm.k (mV2 oM x y).k
  have hC2 : isM (sI (sI oM 33 x) 34 y) oB a b c := hC
  have hrad := rad_m hw hm2 ha hb hc hC2 hD
  have hr9 := rt_le9 hw ha hb hc hD
  have hlo : ag 5 (oM.2.2 9) 0 = some (oB.1 3) := by rw [← hm.2.2.2.2.1]; exact ag_n (k := 0) (by decide) (by decide)
  have hhi : ag 5 (oM.2.2 9) 1 = some (oB.1 4) := by rw [← hm.2.2.2.2.2.1]; exact ag_n (k := 1) (by decide) (by decide)
  unfold f_X7_isVote
  rw [g1, bn1_s, g2, bn1_s, ison_m hw (show (sI (sI oM 33 x) 34 y).1 2 = oB.1 0 from hm2.1) hm2.2.1 hx hy, bn1_s, agr3_m hw hm2 ha hb hc hC2, hrad, hlo, hhi]
  by_cases hv : vS oB a b c = true
  · obtain ⟨-, h2, h3, h4, h5, h6, h7, h8, h9, h10, h11, h12⟩ := vS_e hw hv
    have ex : x = nI (cCX oB a b c).toNat := hx.toN (by omega) (by omega)
    have ey : y = nI (cCY oB a b c).toNat := hy.toN (by omega) (by omega)
    rw [hv, h2, h3, h4, h5, if_neg (by decide), bn1_s, if_pos (by decide), bn1_s, bn1_s, bn1_s, within_m, nI_toInt (by omega), if_pos ⟨h6, h7⟩, bn1_s, if_pos (Or.inr rfl)]
    exact ⟨_, rfl, mV3 _ _ _ _, fun _ => ⟨ex, ey, rfl⟩⟩
  · have hf : vS oB a b c = false := by revert hv; cases vS oB a b c <;> simp
    rw [hf]
    by_cases h2 : onB oB (cCX oB a b c) (cCY oB a b c) = true
    · rw [h2, if_neg (by decide), bn1_s]
      by_cases h3 : agT oB a a b c = true ∧ agT oB b a b c = true ∧ agT oB c a b c = true
      · obtain ⟨h3, h4, h5⟩ := h3
        rw [h3, h4, h5, if_pos (by decide), bn1_s, bn1_s, bn1_s, within_m, nI_toInt (by omega)]
        have hn : ¬ ((oB.1 3).toInt ≤ (rS oB a b c : Int) ∧ (rS oB a b c : Int) ≤ (oB.1 4).toInt) := fun z => hv (by unfold vS; simp only [Bool.and_eq_true, decide_eq_true_eq]; exact ⟨hD, h2, ⟨⟨h3, h4⟩, h5⟩, z.1, z.2⟩)
        rw [if_neg hn, bn1_s, if_pos (Or.inl rfl)]
        exact ⟨_, rfl, mV3 _ _ _ _, fun z => by cases z⟩
      · have h9 : bN (agT oB a a b c) + bN (agT oB b a b c) + bN (agT oB c a b c) < 3 := by
          revert h3
          cases agT oB a a b c <;> cases agT oB b a b c <;> cases agT oB c a b c <;> decide
        rw [if_neg (by show ¬ nI 3 ≤ _; exact nI_ge h9 (by decide))]
        exact ⟨_, rfl, mV2 _ _ _, fun z => by cases z⟩
    · rw [Bool.not_eq_true] at h2
      rw [h2]
      exact ⟨_, rfl, mV2 _ _ _, fun z => by cases z⟩
/-! dots by their numbers -/
theorem isThere_c (oB : St) : f_X0_isThere oB = some (if (oB.1 0).toInt ≤ 0 then 0 else 1) := by
  unfold f_X0_isThere
  have : oB.1 0 ≤ 0 ↔ (oB.1 0).toInt ≤ 0 := by rw [Int32.le_iff_toInt_le]; rfl
  simp only [this]
  split <;> rfl
theorem isSheet_m {oM oB : St} {n : Nat} (hm : mB oM oB n) : f_X7_isSheet oM = some (if (oB.1 0).toInt ≤ 0 then 0 else 1) := by
  unfold f_X7_isSheet
  have : oB.1 0 ≤ 0 ↔ (oB.1 0).toInt ≤ 0 := by rw [Int32.le_iff_toInt_le]; rfl
  rw [hm.1]
  simp only [this]
  split <;> rfl
def isJ (n : Nat) (v : Int32) : Bool := decide (0 ≤ v.toInt) && decide (v.toInt < n)
theorem isJ_t {n : Nat} {v : Int32} (h : isJ n v = true) : ∃ j, j < n ∧ v = nI j := by
  unfold isJ at h
  simp only [Bool.and_eq_true, decide_eq_true_eq] at h
  have := fb_rng v
  refine ⟨v.toInt.toNat, by omega, ?_⟩
  apply Int32.toInt_inj.mp
  rw [nI_toInt (by omega)]
  omega
theorem has_c {oB : St} {n : Nat} (hn : n ≤ 14) (h2 : oB.1 2 = nI n) (v : Int32) : f_X0_has oB v = some (if isJ n v then 1 else 0) := by
  unfold f_X0_has isJ
  have e1 : v < 0 ↔ v.toInt < 0 := by rw [Int32.lt_iff_toInt_lt]; rfl
  have e2 : oB.1 2 ≤ v ↔ (n : Int) ≤ v.toInt := by rw [h2, Int32.le_iff_toInt_le, nI_toInt (by omega)]
  simp only [e1, e2]
  by_cases h1 : v.toInt < 0
  · rw [if_pos h1, decide_eq_false (by omega)]; rfl
  · rw [if_neg h1, decide_eq_true (by omega)]
    by_cases h3 : (n : Int) ≤ v.toInt
    · rw [if_pos h3, decide_eq_false (by omega)]; rfl
    · rw [if_neg h3, decide_eq_true (by omega)]; rfl
theorem isDot_m {oM oB : St} {n : Nat} (hw : wB oB n) (hm : mB oM oB n) (v : Int32) : f_X7_isDot oM v = some (if isJ n v then 1 else 0) := by
  have hn := hw.1
  unfold f_X7_isDot
  rw [isSheet_m hm, within_m, bn1_s, bn1_s, hm.2.2.1]
  unfold isJ
  by_cases h0 : (oB.1 0).toInt ≤ 0
  · have : n = 0 := hw.2.2.2.2.2.2.2.2.2.2.1 (by have := hw.2.2.1; omega)
    subst this
    rw [if_pos h0, if_pos rfl]
    by_cases h1 : 0 ≤ v.toInt
    · rw [decide_eq_true h1, decide_eq_false (by omega)]; rfl
    · rw [decide_eq_false h1]; rfl
  · rw [if_neg h0, if_neg (by decide)]
    have e0 : bI (nI n) n 14 := ⟨nI_toInt (by omega), by omega⟩
    have e : (nI n - 1).toInt = (n : Int) - 1 := (e0.sub b1 (by decide)).1
    rw [e]
    rw [ite10]
    show (if (0 : Int) ≤ v.toInt ∧ v.toInt ≤ (n : Int) - 1 then some 1 else some 0) = _
    by_cases h1 : 0 ≤ v.toInt
    · rw [decide_eq_true h1]
      by_cases h2 : v.toInt < n
      · rw [if_pos ⟨h1, by omega⟩, decide_eq_true h2]; rfl
      · rw [if_neg (by omega), decide_eq_false h2]; rfl
    · rw [if_neg (by omega), decide_eq_false h1]; rfl
theorem isC_lay {oB : St} {a b c : Nat} (oC : St) {d x y : Int32} (hd : bI d (cD oB a b c) 3600) (hx : bI x (cMX oB a b c) 216000) (hy : bI y (cMY oB a b c) 216000) : isC (sI (sI (sI (sI (sI (sI oC 1 (nI a)) 2 (nI b)) 3 (nI c)) 4 d) 5 x) 6 y) oB a b c := ⟨rfl, rfl, rfl, hd, hx, hy⟩
theorem isM_lay {oB : St} {a b c : Nat} (oM : St) {d x y : Int64} (hd : bL d (cD oB a b c) 3600) (hx : bL x (cMX oB a b c) 216000) (hy : bL y (cMY oB a b c) 216000) : isM (sL (sL (sL oM 30 d) 31 x) 32 y) oB a b c := ⟨hd, hx, hy⟩
theorem isLine_c {oB oC : St} {a b c : Nat} (hC : isC oC oB a b c) : f_X1_isLine oC = some (if cD oB a b c = 0 then 1 else 0) := by
  unfold f_X1_isLine
  have := hC.2.2.2.1.eqi b0
  simp only [this]
  split <;> rfl
set_option maxHeartbeats 4000000 in
/-- circle: both answer alike -/
theorem op_circle {oB oM : St} {n : Nat} (hw : wB oB n) (hm : mB oM oB n) (oC : St) (v1 v2 v3 v4 : Int32) : ∃ r oC' oM', f_X6_circle oB oC v1 v2 v3 v4 = some (r, oC') ∧ f_X7_circle oM v1 v2 v3 v4 = some (r, oM') ∧ kM oM oM' := by
  have hn := hw.1
  unfold f_X6_circle f_X7_circle
  rw [has_c hn hw.2.1, has_c hn hw.2.1, has_c hn hw.2.1, isDot_m hw hm, isDot_m hw hm, isDot_m hw hm, within_m]
  simp only [bn1_s, ite10]
  by_cases j1 : isJ n v1 = true
  · by_cases j2 : isJ n v2 = true
    · by_cases j3 : isJ n v3 = true
      · rw [if_pos j1, if_pos j1, if_pos j2, if_pos j2, if_pos j3, if_pos j3]
        by_cases e1 : v1 = v2
        · rw [if_pos e1, if_pos e1]
          exact ⟨_, _, _, rfl, rfl, kM.rf _⟩
        · rw [if_neg e1, if_neg e1]
          by_cases e2 : v1 = v3
          · rw [if_pos e2]
            refine ⟨_, _, oM, rfl, ?_, kM.rf _⟩
            by_cases e3 : v2 = v3
            · rw [if_pos e3]
            · rw [if_neg e3, if_pos e2]
          · rw [if_neg e2]
            by_cases e3 : v2 = v3
            · rw [if_pos e3, if_pos e3]
              exact ⟨_, _, _, rfl, rfl, kM.rf _⟩
            · rw [if_neg e3, if_neg e3, if_neg e2]
              have q1 : v4 < 0 ↔ v4.toInt < 0 := by rw [Int32.lt_iff_toInt_lt]; rfl
              have q2 : v4 ≤ 4 ↔ v4.toInt ≤ 4 := by rw [Int32.le_iff_toInt_le]; rfl
              by_cases h4 : (0 : Int) ≤ v4.toInt ∧ v4.toInt ≤ 4
              · rw [if_neg (by rw [q1]; omega), if_pos (by rw [q2]; omega), if_pos (show Int32.toInt 0 ≤ v4.toInt ∧ v4.toInt ≤ Int32.toInt 4 from h4)]
                obtain ⟨a, ha, rfl⟩ := isJ_t j1
                obtain ⟨b, hb, rfl⟩ := isJ_t j2
                obtain ⟨c, hc, rfl⟩ := isJ_t j3
                obtain ⟨d, x, y, f1, f2, f3, f4⟩ := lay_c hw ha hb hc oC
                obtain ⟨d', x', y', k1, k2, k3, k4⟩ := lay_m hw hm ha hb hc
                rw [f1, k1, bn1_s, bn2_s]
                have hC := isC_lay oC f2 f3 f4
                have hM := isM_lay oM k2 k3 k4
                generalize sI (sI (sI (sI (sI (sI oC 1 (nI a)) 2 (nI b)) 3 (nI c)) 4 d) 5 x) 6 y = oC2 at hC ⊢
                have hkm : kM oM (sL (sL (sL oM 30 d') 31 x') 32 y') := (((kM.rf oM).l d').l x').l y'
                generalize sL (sL (sL oM 30 d') 31 x') 32 y' = oM2 at hM hkm ⊢
                have hm2 := hm.k hkm
                rw [isLine_c hC, bn1_s]
                by_cases hD : cD oB a b c = 0
                · rw [if_pos hD, if_pos hD, if_neg (by decide), if_pos rfl]
                  exact ⟨_, _, _, rfl, rfl, hkm⟩
                · rw [if_neg hD, if_neg hD, if_pos rfl, if_neg (show ¬ (1 : Int32) = 0 by decide)]
                  unfold f_X7_circleNow
                  obtain ⟨cx, cy, t1, t2, t3, t4⟩ := cell_c hC hD
                  obtain ⟨cx', cy', u1, u2, u3, u4⟩ := cell_m hM hD
                  obtain ⟨oM3, w1, w2, -⟩ := vote_m hw hm2 ha hb hc hM hD
                  rw [vote_c hw ha hb hc hC hD, t1, t2, rad_c hw ha hb hc hC hD, agr3_c hw ha hb hc hC, w1, u1, u2, rad_m hw hm2 ha hb hc hM hD, agr3_m hw hm2 ha hb hc hM, t3.eq u3, t4.eq u4]
                  simp only [bn1_s, bn2_s]
                  by_cases w0 : v4 = 0
                  · rw [if_pos w0, if_pos w0]
                    by_cases hv : vS oB a b c = true
                    · obtain ⟨-, -, -, -, -, -, -, hr, hx9, hy9, -, -⟩ := vS_e hw hv
                      have hk : ¬ nI (kS oB a b c) = -1 := by
                        rw [← Int32.toInt_inj, nI_toInt (by unfold kS; omega)]
                        show ¬ ((kS oB a b c : Nat) : Int) = -1
                        omega
                      rw [if_pos hv, if_pos hv, if_neg hk, if_neg (by decide)]
                      exact ⟨_, _, _, rfl, rfl, hkm.tr w2.k⟩
                    · rw [if_neg hv, if_neg hv, if_pos rfl, if_pos rfl]
                      exact ⟨_, _, _, rfl, rfl, hkm.tr w2.k⟩
                  · rw [if_neg w0, if_neg w0]
                    by_cases w1 : v4 = 1
                    · rw [if_pos w1, if_pos w1]
                      exact ⟨_, _, _, rfl, rfl, hkm⟩
                    · rw [if_neg w1, if_neg w1]
                      by_cases w2 : v4 = 2
                      · rw [if_pos w2, if_pos w2]
                        exact ⟨_, _, _, rfl, rfl, hkm⟩
                      · rw [if_neg w2, if_neg w2]
                        by_cases w3 : v4 = 3
                        · rw [if_pos w3, if_pos w3]
                          exact ⟨_, _, _, rfl, rfl, hkm⟩
                        · rw [if_neg w3, if_neg w3]
                          exact ⟨_, _, _, rfl, rfl, hkm⟩
              · refine ⟨-102, oC, oM, ?_, ?_, kM.rf _⟩
                · by_cases h5 : v4 < 0
                  · rw [if_pos h5]
                  · rw [if_neg h5, if_neg (by rw [q2]; rw [q1] at h5; omega)]
                · rw [if_neg (show ¬ (Int32.toInt 0 ≤ v4.toInt ∧ v4.toInt ≤ Int32.toInt 4) from h4)]
      · rw [if_pos j1, if_pos j1, if_pos j2, if_pos j2, if_neg j3, if_neg j3]
        exact ⟨_, _, _, rfl, rfl, kM.rf _⟩
    · rw [if_pos j1, if_pos j1, if_neg j2, if_neg j2]
      exact ⟨_, _, _, rfl, rfl, kM.rf _⟩
  · rw [if_neg j1, if_neg j1]
    exact ⟨_, _, _, rfl, rfl, kM.rf _⟩
