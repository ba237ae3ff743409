/-! what is told of rings -/
theorem isR_both {oR oM : St} {n : Nat} (h : RR oR oM n) (v : Int32) : ∃ q, q ≤ 7 ∧ oR.1 4 = nI q ∧ f_X3_has oR v = some (if isJ q v then 1 else 0) ∧ f_X7_isRing oM v = some (if isJ q v then 1 else 0) ∧ (isJ q v = true → RQ oR oM n q) := by
  rcases h with ⟨r1, r2, r3⟩ | ⟨r1, r2, q, r3⟩
  · have e : isJ 0 v = false := by
      unfold isJ
      by_cases c : 0 ≤ v.toInt
      · rw [decide_eq_false (show ¬ v.toInt < ((0 : Nat) : Int) by omega), Bool.and_false]
      · rw [decide_eq_false c, Bool.false_and]
    refine ⟨0, by omega, r3, has_r (q := 0) (by omega) r3 v, ?_, fun z => by rw [e] at z; cases z⟩
    unfold f_X7_isRing
    rw [if_pos r2, e]
    rfl
  · refine ⟨q, r3.2.2.1, r3.1, has_r r3.2.2.1 r3.1 v, ?_, fun _ => r3⟩
    have hq := r3.2.2.1
    unfold f_X7_isRing
    rw [r2, if_neg (by decide), within_m, bn1_s, ite10, r3.2.1]
    have e0 : bI (nI q) q 14 := bnI (by omega) (by decide)
    have e : (nI q - 1).toInt = (q : Int) - 1 := (e0.sub b1 (by decide)).1
    rw [e]
    unfold isJ
    show (if (0 : Int) ≤ v.toInt ∧ v.toInt ≤ (q : Int) - 1 then some 1 else some 0) = _
    by_cases h1 : 0 ≤ v.toInt
    · rw [decide_eq_true h1]
      by_cases h2 : v.toInt < q
      · rw [if_pos ⟨h1, by omega⟩, decide_eq_true h2]; rfl
      · rw [if_neg (by omega), decide_eq_false h2]; rfl
    · rw [if_neg (by omega), decide_eq_false h1]; rfl
def rgS (oB : St) (n k : Nat) (own w : Int32) : Int32 :=
  if w = 0 then nI (k % 32) else if w = 1 then nI (k / 32 % 32) else if w = 2 then nI (k / 1024 % 32) else if w = 3 then nI (pc own) else if w = 4 then own
  else if w = 5 then nI (spS oB (k % 32) (k / 32 % 32) n own) else if w = 6 then (if nI (spS oB (k % 32) (k / 32 % 32) n own) = 8 then 0 else 1) else -102
theorem spanr_c {oR oB : St} {n i k : Nat} {p : Nat → Bool} (hw : wB oB n) (hi : i < 7) (hk : k < 32768) (h5 : oR.2.2 5 i = nI k) (h6 : oR.2.2 6 i = bs p n) (oG : St) : ∃ oG', f_X3_spanOf oR oB oG (nI i) = some (nI (spS oB (k % 32) (k / 32 % 32) n (bs p n)), oG') := by
  obtain ⟨oG', g1, g2⟩ := from_c oG (k := k) (by omega)
  unfold f_X3_spanOf
  rw [ag_n hi (by decide), ag_n hi (by decide), bn1_s, h5, g1, bn1_s, bn1_s, h6, span_c hw g2 (by omega) (by omega), bn1_s]
  exact ⟨_, rfl⟩
theorem kind_c {oR oB : St} {n i k : Nat} {p : Nat → Bool} (hw : wB oB n) (hi : i < 7) (hk : k < 32768) (h5 : oR.2.2 5 i = nI k) (h6 : oR.2.2 6 i = bs p n) (oG : St) : ∃ oG', f_X3_kindOf oR oB oG (nI i) = some (if nI (spS oB (k % 32) (k / 32 % 32) n (bs p n)) = 8 then 0 else 1, oG') := by
  obtain ⟨oG', g1⟩ := spanr_c hw hi hk h5 h6 oG
  unfold f_X3_kindOf
  rw [g1, bn2_s]
  refine ⟨oG', ?_⟩
  split <;> rfl
theorem kind_m {oM oB : St} {n i k : Nat} (hw : wB oB n) (hm : mB oM oB n) (hi : i < 14) (h12 : oM.2.2 12 i = nI (k % 32)) (h13 : oM.2.2 13 i = nI (k / 32 % 32)) : f_X7_kindOf oM (nI i) = some (if nI (spS oB (k % 32) (k / 32 % 32) n (bs (fun j => decide (oM.2.2 15 j = nI i)) n)) = 8 then 0 else 1) := by
  unfold f_X7_kindOf
  rw [ag_n hi (by decide), ag_n hi (by decide), bn1_s, bn1_s, h12, h13, ownOf_m hw.1 hm.2.2.1, bn1_s, span_m hw hm (by omega) (by omega), bn1_s]
  split <;> rfl
set_option maxHeartbeats 4000000 in
theorem rtell_c {oR oB : St} {n i k : Nat} {p : Nat → Bool} (hw : wB oB n) (hi : i < 7) (hk : k < 32768) (h5 : oR.2.2 5 i = nI k) (h6 : oR.2.2 6 i = bs p n) (oG : St) (w : Int32) : ∃ oG', f_X3_tell oR oB oG (nI i) w = some (rgS oB n k (bs p n) w, oG') := by
  obtain ⟨oG1, g1⟩ := spanr_c hw hi hk h5 h6 oG
  obtain ⟨oG2, g2⟩ := kind_c hw hi hk h5 h6 oG
  unfold f_X3_tell rgS
  rw [ag_n hi (by decide), ag_n hi (by decide), bn1_s, bn1_s, bn1_s, h5, keyX_n, keyY_n (by omega), keyR_n (by omega), ownC_c hi hw.1 h6, g1, g2, bn1_s, bn1_s, bn1_s, bn1_s, bn2_s, bn2_s, bn1_s, h6]
  by_cases c0 : w = 0
  · rw [if_pos c0, if_pos c0]; exact ⟨_, rfl⟩
  · rw [if_neg c0, if_neg c0]
    by_cases c1 : w = 1
    · rw [if_pos c1, if_pos c1]; exact ⟨_, rfl⟩
    · rw [if_neg c1, if_neg c1]
      by_cases c2 : w = 2
      · rw [if_pos c2, if_pos c2]; exact ⟨_, rfl⟩
      · rw [if_neg c2, if_neg c2]
        by_cases c3 : w = 3
        · rw [if_pos c3, if_pos c3]; exact ⟨_, rfl⟩
        · rw [if_neg c3, if_neg c3]
          by_cases c4 : w = 4
          · rw [if_pos c4, if_pos c4]; exact ⟨_, rfl⟩
          · rw [if_neg c4, if_neg c4]
            by_cases c5 : w = 5
            · rw [if_pos c5, if_pos c5]; exact ⟨_, rfl⟩
            · rw [if_neg c5, if_neg c5]
              by_cases c6 : w = 6
              · rw [if_pos c6, if_pos c6]; exact ⟨_, rfl⟩
              · rw [if_neg c6, if_neg c6]; exact ⟨_, rfl⟩
set_option maxHeartbeats 4000000 in
theorem rtell_m {oM oB : St} {n i k : Nat} (hw : wB oB n) (hm : mB oM oB n) (hi : i < 14) (h12 : oM.2.2 12 i = nI (k % 32)) (h13 : oM.2.2 13 i = nI (k / 32 % 32)) (h14 : oM.2.2 14 i = nI (k / 1024 % 32)) (w : Int32) (hw6 : (0 : Int) ≤ w.toInt ∧ w.toInt ≤ 6) : f_X7_ringNow oM (nI i) w = some (rgS oB n k (bs (fun j => decide (oM.2.2 15 j = nI i)) n) w) := by
  unfold f_X7_ringNow rgS
  rw [ag_n hi (by decide), ag_n hi (by decide), ag_n hi (by decide), bn1_s, bn1_s, bn1_s, bn1_s, bn1_s, h12, h13, h14, ownOf_m hw.1 hm.2.2.1, bn1_s, bn1_s, bn1_s, size_m, bn1_s, span_m hw hm (by omega) (by omega), bn1_s, kind_m hw hm hi h12 h13, bn1_s]
  by_cases c0 : w = 0
  · rw [if_pos c0, if_pos c0]
  · rw [if_neg c0, if_neg c0]
    by_cases c1 : w = 1
    · rw [if_pos c1, if_pos c1]
    · rw [if_neg c1, if_neg c1]
      by_cases c2 : w = 2
      · rw [if_pos c2, if_pos c2]
      · rw [if_neg c2, if_neg c2]
        by_cases c3 : w = 3
        · rw [if_pos c3, if_pos c3]
        · rw [if_neg c3, if_neg c3]
          by_cases c4 : w = 4
          · rw [if_pos c4, if_pos c4]
          · rw [if_neg c4, if_neg c4]
            by_cases c5 : w = 5
            · rw [if_pos c5, if_pos c5]
            · rw [if_neg c5, if_neg c5, if_pos (w6 hw6 c0 c1 c2 c3 c4 c5)]
theorem rgS_out {oB : St} {n k : Nat} {own w : Int32} (h : ¬ ((0 : Int) ≤ w.toInt ∧ w.toInt ≤ 6)) : rgS oB n k own w = -102 := by
  unfold rgS
  have k : ∀ q : Int32, (0 : Int) ≤ q.toInt ∧ q.toInt ≤ 6 → ¬ w = q := fun q hq z => h (by rw [z]; exact hq)
  rw [if_neg (k 0 (by decide)), if_neg (k 1 (by decide)), if_neg (k 2 (by decide)), if_neg (k 3 (by decide)), if_neg (k 4 (by decide)), if_neg (k 5 (by decide)), if_neg (k 6 (by decide))]
set_option maxHeartbeats 4000000 in
theorem op_ring {oX oP oR oT oB oM : St} (h : REL oX oP oR oT oB oM) (oG : St) (v1 v2 : Int32) : ∃ r oG', f_X6_ring oR oB oG v1 v2 = some (r, oG') ∧ f_X7_ring oM v1 v2 = some r := by
  obtain ⟨n, hw, hm, hT, hp, hR, c6, c7, c8⟩ := h
  obtain ⟨q, q1, q2, q3, q4, q5⟩ := isR_both hR v1
  unfold f_X6_ring f_X7_ring
  rw [q3, q4, bn1_s, bn1_s, ite10, ite10, within_m, bn1_s, ite10]
  by_cases c : isJ q v1 = true
  · rw [if_pos c, if_pos c]
    obtain ⟨i, hi, rfl⟩ := isJ_t c
    obtain ⟨-, -, -, r4, r5, r6⟩ := q5 c
    obtain ⟨k, k1, k2, k3, k4, k5⟩ := r4 i hi
    obtain ⟨oG', g1⟩ := rtell_c hw (show i < 7 by omega) k1 k2 (r5 i hi) oG v2
    rw [g1, bn2_s]
    by_cases c3 : (0 : Int) ≤ v2.toInt ∧ v2.toInt ≤ 6
    · rw [if_pos (show Int32.toInt 0 ≤ v2.toInt ∧ v2.toInt ≤ Int32.toInt 6 from c3), rtell_m hw hm (show i < 14 by omega) k3 k4 k5 v2 c3, bn1_s]
      exact ⟨_, _, rfl, rfl⟩
    · rw [if_neg (show ¬ (Int32.toInt 0 ≤ v2.toInt ∧ v2.toInt ≤ Int32.toInt 6) from c3), rgS_out c3]
      exact ⟨_, _, rfl, rfl⟩
  · rw [if_neg c, if_neg c]
    exact ⟨_, _, rfl, rfl⟩
set_option maxHeartbeats 4000000 in
theorem op_as {oX oP oR oT oB oM : St} (h : REL oX oP oR oT oB oM) (oG : St) (v1 v2 : Int32) : ∃ r oG', f_X6_as oR oB oG v1 v2 = some (r, oG') ∧ f_X7_as oM v1 v2 = some r := by
  obtain ⟨n, hw, hm, hT, hp, hR, c6, c7, c8⟩ := h
  obtain ⟨q, q1, q2, q3, q4, q5⟩ := isR_both hR v1
  unfold f_X6_as f_X7_as
  rw [q3, q4, bn1_s, bn1_s, ite10, ite10, within_m, bn1_s, ite10]
  by_cases c : isJ q v1 = true
  · rw [if_pos c, if_pos c]
    obtain ⟨i, hi, rfl⟩ := isJ_t c
    obtain ⟨-, -, -, r4, r5, r6⟩ := q5 c
    obtain ⟨k, k1, k2, k3, k4, k5⟩ := r4 i hi
    obtain ⟨oG', g1⟩ := kind_c hw (show i < 7 by omega) k1 k2 (r5 i hi) oG
    rw [g1, bn2_s, kind_m hw hm (show i < 14 by omega) k3 k4, bn1_s]
    have e1 : v2 < 0 ↔ v2.toInt < 0 := by rw [Int32.lt_iff_toInt_lt]; rfl
    have e2 : v2 ≤ 1 ↔ v2.toInt ≤ 1 := by rw [Int32.le_iff_toInt_le]; rfl
    by_cases c3 : (0 : Int) ≤ v2.toInt ∧ v2.toInt ≤ 1
    · rw [if_neg (by rw [e1]; omega), if_pos (by rw [e2]; omega), if_pos (show Int32.toInt 0 ≤ v2.toInt ∧ v2.toInt ≤ Int32.toInt 1 from c3)]
      by_cases c4 : (if nI (spS oB (k % 32) (k / 32 % 32) n (bs (fun j => decide (oM.2.2 15 j = nI i)) n)) = 8 then (0 : Int32) else 1) = v2
      · rw [if_pos c4, if_pos c4]; exact ⟨_, _, rfl, rfl⟩
      · rw [if_neg c4, if_neg c4]; exact ⟨_, _, rfl, rfl⟩
    · refine ⟨-102, oG, ?_, ?_⟩
      · by_cases h5 : v2 < 0
        · rw [if_pos h5]
        · rw [if_neg h5, if_neg (by rw [e2]; rw [e1] at h5; omega)]
      · rw [if_neg (show ¬ (Int32.toInt 0 ≤ v2.toInt ∧ v2.toInt ≤ Int32.toInt 1) from c3)]
  · rw [if_neg c, if_neg c]
    exact ⟨_, _, rfl, rfl⟩
theorem four_le (a b : Int) : 2 * a * (2 * a) = 4 * (a * a) := by
  rw [Int.mul_assoc, Int.mul_left_comm a 2 a, ← Int.mul_assoc]
  rfl
set_option maxHeartbeats 8000000 in
theorem op_cross {oX oP oR oT oB oM : St} (h : REL oX oP oR oT oB oM) (v1 v2 : Int32) : ∃ r, f_X6_cross oR v1 v2 = some r ∧ f_X7_cross oM v1 v2 = some r := by
  obtain ⟨n, hw, hm, hT, hp, hR, c6, c7, c8⟩ := h
  obtain ⟨q, q1, q2, q3, q4, q5⟩ := isR_both hR v1
  obtain ⟨q', s1, s2, s3, s4, s5⟩ := isR_both hR v2
  have eq' : q' = q := by
    rw [q2] at s2
    exact ((nI_eq (by omega) (by omega)).mp s2).symm
  subst eq'
  unfold f_X6_cross f_X7_cross
  rw [q3, q4, s3, s4, bn1_s, bn1_s, bn1_s, bn1_s, ite10, ite10, ite10, ite10]
  by_cases c : isJ q' v1 = true
  · rw [if_pos c, if_pos c]
    by_cases d : isJ q' v2 = true
    · rw [if_pos d, if_pos d]
      by_cases e : v1 = v2
      · rw [if_pos e, if_pos e]; exact ⟨_, rfl, rfl⟩
      · rw [if_neg e, if_neg e]
        obtain ⟨i, hi, rfl⟩ := isJ_t c
        obtain ⟨j, hj, rfl⟩ := isJ_t d
        obtain ⟨-, -, -, r4, r5, r6⟩ := q5 c
        obtain ⟨k, k1, k2, k3, k4, k5⟩ := r4 i hi
        obtain ⟨l, l1, l2, l3, l4, l5⟩ := r4 j hj
        unfold f_X3_areCrossing
        have hk' : k < 2 ^ 31 := by omega
        have hl' : l < 2 ^ 31 := by omega
        rw [ag_n (show i < 7 by omega) (by decide), ag_n (show j < 7 by omega) (by decide), k2, l2]
        repeat first | rw [bn1_s] | rw [keyX_n] | rw [keyY_n hk'] | rw [keyY_n hl'] | rw [keyR_n hk'] | rw [keyR_n hl']
        repeat rw [ag_n (show i < 14 by omega) (by decide)]
        repeat rw [ag_n (show j < 14 by omega) (by decide)]
        repeat rw [bn1_s]
        rw [k3, k4, k5, l3, l4, l5]
        have ax : bI (nI (k % 32)) ((k % 32 : Nat) : Int) 31 := bnI (by omega) (by decide)
        have ay : bI (nI (k / 32 % 32)) ((k / 32 % 32 : Nat) : Int) 31 := bnI (by omega) (by decide)
        have ar : bI (nI (k / 1024 % 32)) ((k / 1024 % 32 : Nat) : Int) 31 := bnI (by omega) (by decide)
        have bx : bI (nI (l % 32)) ((l % 32 : Nat) : Int) 31 := bnI (by omega) (by decide)
        have by' : bI (nI (l / 32 % 32)) ((l / 32 % 32 : Nat) : Int) 31 := bnI (by omega) (by decide)
        have br : bI (nI (l / 1024 % 32)) ((l / 1024 % 32 : Nat) : Int) 31 := bnI (by omega) (by decide)
        have dx := ax.sub bx (by decide)
        have dy := ay.sub by' (by decide)
        have dr := ar.sub br (by decide)
        have sq := (dx.mul dx (by decide)).add (dy.mul dy (by decide)) (by decide)
        have tg := (ar.add br (by decide)).add b1 (by decide)
        have tt := tg.mul tg (by decide)
        have rr := dr.mul dr (by decide)
        have dx2 := b2.mul dx (by decide)
        have dy2 := b2.mul dy (by decide)
        have dr2 := b2.mul dr (by decide)
        have sq2 := (dx2.mul dx2 (by decide)).add (dy2.mul dy2 (by decide)) (by decide)
        have tg2 := ((b2.mul ar (by decide)).add (b2.mul br (by decide)) (by decide)).add b2 (by decide)
        have tt2 := tg2.mul tg2 (by decide)
        have rr2 := dr2.mul dr2 (by decide)
        simp only [tt.lt sq, sq.lt rr, tt2.lt sq2, sq2.lt rr2]
        generalize ((k % 32 : Nat) : Int) - ((l % 32 : Nat) : Int) = U
        generalize ((k / 32 % 32 : Nat) : Int) - ((l / 32 % 32 : Nat) : Int) = V
        generalize ((k / 1024 % 32 : Nat) : Int) - ((l / 1024 % 32 : Nat) : Int) = D
        have e1 : 2 * ((k / 1024 % 32 : Nat) : Int) + 2 * ((l / 1024 % 32 : Nat) : Int) + 2 = 2 * (((k / 1024 % 32 : Nat) : Int) + ((l / 1024 % 32 : Nat) : Int) + 1) := by omega
        rw [e1]
        generalize ((k / 1024 % 32 : Nat) : Int) + ((l / 1024 % 32 : Nat) : Int) + 1 = T
        rw [four_le U 0, four_le V 0, four_le T 0, four_le D 0]
        generalize U * U = a
        generalize V * V = b
        generalize T * T = t
        generalize D * D = d
        by_cases x1 : t < a + b
        · rw [if_pos x1, if_pos (by omega)]; exact ⟨_, rfl, rfl⟩
        · rw [if_neg x1, if_neg (show ¬ 4 * t < 4 * a + 4 * b by omega)]
          by_cases x2 : a + b < d
          · rw [if_pos x2, if_pos (by omega)]; exact ⟨_, rfl, rfl⟩
          · rw [if_neg x2, if_neg (show ¬ 4 * a + 4 * b < 4 * d by omega)]; exact ⟨_, rfl, rfl⟩
    · rw [if_neg d, if_neg d]; exact ⟨_, rfl, rfl⟩
  · rw [if_neg c, if_neg c]; exact ⟨_, rfl, rfl⟩
