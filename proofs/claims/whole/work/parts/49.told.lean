/-! whose a dot is -/
def owS (oM : St) (j : Nat) : Int32 := if oM.1 10 = 0 then -1 else oM.2.2 15 j
set_option maxHeartbeats 4000000 in
theorem owner_c {oR oM : St} {n j : Nat} (hn : n ≤ 14) (hR : RR oR oM n) (hj : j < n) : f_X3_ownerOf oR (nI j) = some (owS oM j) := by
  unfold f_X3_ownerOf owS
  rcases hR with ⟨r1, r2, r3⟩ | ⟨r1, r2, q, r3⟩
  · rw [if_pos r2, show fu = 4999 + 1 from rfl, f_X3_ownerOf_L2_s, r3, if_pos (by decide)]
  · obtain ⟨s1, s2, s3, s4, s5, s6⟩ := r3
    rw [r2, if_neg (by decide)]
    have hb : ∀ i, i < q → bt (oR.2.2 6 i) j = decide (oM.2.2 15 j = nI i) := fun i hi => by
      rw [s5 i hi, bt_bs _ n (by omega) j (by omega), decide_eq_true hj, Bool.true_and]
    have key : ∀ (fuel i : Nat), q - i < fuel → i ≤ q → (∀ k, k < i → oM.2.2 15 j ≠ nI k) → f_X3_ownerOf_L2 oR (nI j) fuel (nI i) = some (oM.2.2 15 j) := by
      intro fuel
      induction fuel with
      | zero => intro i h; omega
      | succ fuel ih =>
        intro i hf hi hk
        rw [f_X3_ownerOf_L2_s, s1]
        by_cases h1 : q ≤ i
        · rw [if_pos (nI_le h1 (by omega))]
          rcases s6 j hj with h | ⟨p, hp, h⟩
          · rw [h]
          · exact absurd h (hk p (by omega))
        · rw [if_neg (nI_ge (by omega) (by omega)), ag_n (show i < 7 by omega) (by decide), bn1_s]
          by_cases c : oM.2.2 15 j = nI i
          · rw [if_pos ((b_is _ (by omega)).mpr (by rw [hb i (by omega)]; simpa using c)), c]
          · rw [if_neg (fun z => c (by have := (b_is _ (by omega)).mp z; rw [hb i (by omega)] at this; simpa using this)), nI_1]
            exact ih (i + 1) (by omega) (by omega) (fun k hk2 => by
              rcases Nat.lt_or_ge k i with q | q
              · exact hk k q
              · rw [show k = i by omega]; exact c)
    exact key fu 0 (by unfold fu; omega) (Nat.zero_le _) (fun k hk => by omega)
def tdS (oB oM : St) (j : Nat) (w : Int32) : Int32 := if w = 0 then oB.2.2 8 j else if w = 1 then oB.2.2 9 j else if w = 2 then oB.2.2 10 j else if w = 3 then owS oM j else -102
set_option maxHeartbeats 4000000 in
theorem told_cc {oR oM oB : St} {n j : Nat} (hw : wB oB n) (hR : RR oR oM n) (hj : j < n) (w : Int32) : f_X6_told oR oB (nI j) w = some (tdS oB oM j w) := by
  have hn := hw.1
  unfold f_X6_told tdS
  rw [has_c hn hw.2.1, bn1_s, isJ_nI hj (by omega), if_neg (by decide), ag_n (show j < 14 by omega) (by decide), ag_n (show j < 14 by omega) (by decide), ag_n (show j < 14 by omega) (by decide), owner_c hn hR hj, bn1_s, bn1_s, bn1_s, bn1_s]
  by_cases c0 : w = 0
  · rw [if_pos c0, if_pos c0]
  · rw [if_neg c0, if_neg c0]
    by_cases c1 : w = 1
    · rw [if_pos c1, if_pos c1]
    · rw [if_neg c1, if_neg c1]
      by_cases c2 : w = 2
      · rw [if_pos c2, if_pos c2]
      · rw [if_neg c2, if_neg c2]
        by_cases c3 : w = 3
        · rw [if_pos c3, if_pos c3]
        · rw [if_neg c3, if_neg c3]
theorem ringOf_m {oM : St} {j : Nat} (hj : j < 14) : f_X7_ringOf oM (nI j) = some (owS oM j) := by
  unfold f_X7_ringOf owS
  by_cases c : oM.1 10 = 0
  · rw [if_pos c, if_pos c]
  · rw [if_neg c, if_neg c, ag_n hj (by decide), bn1_s]
theorem w3 {w : Int32} (h : (0 : Int) ≤ w.toInt ∧ w.toInt ≤ 3) (c0 : ¬ w = 0) (c1 : ¬ w = 1) (c2 : ¬ w = 2) : w = 3 := by
  rw [← Int32.toInt_inj] at c0 c1 c2 ⊢
  have d0 : ¬ w.toInt = 0 := c0
  have d1 : ¬ w.toInt = 1 := c1
  have d2 : ¬ w.toInt = 2 := c2
  show w.toInt = 3
  omega
theorem tdS_out {oB oM : St} {j : Nat} {w : Int32} (h : ¬ ((0 : Int) ≤ w.toInt ∧ w.toInt ≤ 3)) : tdS oB oM j w = -102 := by
  unfold tdS
  have k : ∀ q : Int32, (0 : Int) ≤ q.toInt ∧ q.toInt ≤ 3 → ¬ w = q := fun q hq z => h (by rw [z]; exact hq)
  rw [if_neg (k 0 (by decide)), if_neg (k 1 (by decide)), if_neg (k 2 (by decide)), if_neg (k 3 (by decide))]
set_option maxHeartbeats 4000000 in
theorem toldNow_m {oM oB : St} {n j : Nat} (hw : wB oB n) (hm : mB oM oB n) (hj : j < n) (w : Int32) (h3 : (0 : Int) ≤ w.toInt ∧ w.toInt ≤ 3) : f_X7_toldNow oM (nI j) w = some (tdS oB oM j w) := by
  have hn := hw.1
  obtain ⟨-, -, -, hxy, -⟩ := hm
  unfold f_X7_toldNow tdS
  rw [ag_n (show j < 14 by omega) (by decide), ag_n (show j < 14 by omega) (by decide), ag_n (show j < 14 by omega) (by decide), ringOf_m (by omega), bn1_s, bn1_s, bn1_s, bn1_s, (hxy j hj).1, (hxy j hj).2.1, (hxy j hj).2.2]
  by_cases c0 : w = 0
  · rw [if_pos c0, if_pos c0]
  · rw [if_neg c0, if_neg c0]
    by_cases c1 : w = 1
    · rw [if_pos c1, if_pos c1]
    · rw [if_neg c1, if_neg c1]
      by_cases c2 : w = 2
      · rw [if_pos c2, if_pos c2]
      · rw [if_neg c2, if_neg c2, if_pos (w3 h3 c0 c1 c2)]
theorem op_told {oX oP oR oT oB oM : St} (h : REL oX oP oR oT oB oM) (v1 v2 : Int32) : ∃ r, f_X6_told oR oB v1 v2 = some r ∧ f_X7_told oM v1 v2 = some r := by
  obtain ⟨n, hw, hm, hT, hp, hR, c6, c7, c8⟩ := h
  unfold f_X7_told
  rw [isDot_m hw hm, bn1_s, ite10, within_m, bn1_s, ite10]
  by_cases c : isJ n v1 = true
  · obtain ⟨j, hj, rfl⟩ := isJ_t c
    rw [if_pos c, told_cc hw hR hj]
    by_cases c3 : (0 : Int) ≤ v2.toInt ∧ v2.toInt ≤ 3
    · rw [if_pos (show Int32.toInt 0 ≤ v2.toInt ∧ v2.toInt ≤ Int32.toInt 3 from c3), toldNow_m hw hm hj v2 c3, bn1_s]
      exact ⟨_, rfl, rfl⟩
    · rw [if_neg (show ¬ (Int32.toInt 0 ≤ v2.toInt ∧ v2.toInt ≤ Int32.toInt 3) from c3), tdS_out c3]
      exact ⟨_, rfl, rfl⟩
  · rw [if_neg c]
    unfold f_X6_told
    rw [has_c hw.1 hw.2.1, bn1_s, ite10, if_neg c]
    exact ⟨_, rfl, rfl⟩
/-! the sheet's numbers -/
def abS (oB : St) (w : Int32) : Int32 := if w = 0 then oB.1 0 else if w = 1 then oB.1 1 else if w = 2 then oB.1 2 else if w = 3 then oB.1 3 else if w = 4 then oB.1 4 else if w = 5 then oB.1 5 else if w = 6 then oB.1 6 else oB.1 7
theorem ab_c {oB : St} (hW : ¬ (oB.1 0).toInt ≤ 0) (w : Int32) (h7 : (0 : Int) ≤ w.toInt ∧ w.toInt ≤ 7) : f_X6_about oB w = some (abS oB w) := by
  unfold f_X6_about abS
  have q1 : w < 0 ↔ w.toInt < 0 := by rw [Int32.lt_iff_toInt_lt]; rfl
  have q2 : w ≤ 7 ↔ w.toInt ≤ 7 := by rw [Int32.le_iff_toInt_le]; rfl
  rw [if_neg (by rw [q1]; omega), if_pos (by rw [q2]; omega), isThere_c, bn1_s, ite01, if_neg hW]
  simp only [sm_if]
theorem w7 {w : Int32} (h : (0 : Int) ≤ w.toInt ∧ w.toInt ≤ 7) : w = 0 ∨ w = 1 ∨ w = 2 ∨ w = 3 ∨ w = 4 ∨ w = 5 ∨ w = 6 ∨ w = 7 := by
  have k : ∀ q : Int32, w.toInt = q.toInt → w = q := fun q hq => Int32.toInt_inj.mp hq
  have : w.toInt = 0 ∨ w.toInt = 1 ∨ w.toInt = 2 ∨ w.toInt = 3 ∨ w.toInt = 4 ∨ w.toInt = 5 ∨ w.toInt = 6 ∨ w.toInt = 7 := by omega
  rcases this with e | e | e | e | e | e | e | e
  · exact Or.inl (k 0 e)
  · exact Or.inr (Or.inl (k 1 e))
  · exact Or.inr (Or.inr (Or.inl (k 2 e)))
  · exact Or.inr (Or.inr (Or.inr (Or.inl (k 3 e))))
  · exact Or.inr (Or.inr (Or.inr (Or.inr (Or.inl (k 4 e)))))
  · exact Or.inr (Or.inr (Or.inr (Or.inr (Or.inr (Or.inl (k 5 e))))))
  · exact Or.inr (Or.inr (Or.inr (Or.inr (Or.inr (Or.inr (Or.inl (k 6 e)))))))
  · exact Or.inr (Or.inr (Or.inr (Or.inr (Or.inr (Or.inr (Or.inr (k 7 e)))))))
theorem bnds_m {oB oM : St} {n : Nat} (hm : mB oM oB n) : ag 5 (oM.2.2 9) 0 = some (oB.1 3) ∧ ag 5 (oM.2.2 9) 1 = some (oB.1 4) ∧ ag 5 (oM.2.2 9) 2 = some (oB.1 5) ∧ ag 5 (oM.2.2 9) 3 = some (oB.1 6) ∧ ag 5 (oM.2.2 9) 4 = some (oB.1 7) := by
  obtain ⟨-, -, -, -, h0, h1, h2, h3, h4⟩ := hm
  refine ⟨?_, ?_, ?_, ?_, ?_⟩
  · rw [← h0]; exact ag_n (k := 0) (by decide) (by decide)
  · rw [← h1]; exact ag_n (k := 1) (by decide) (by decide)
  · rw [← h2]; exact ag_n (k := 2) (by decide) (by decide)
  · rw [← h3]; exact ag_n (k := 3) (by decide) (by decide)
  · rw [← h4]; exact ag_n (k := 4) (by decide) (by decide)
theorem abN_m {oB oM : St} {n : Nat} (hw : wB oB n) (hm : mB oM oB n) (w : Int32) (h7 : (0 : Int) ≤ w.toInt ∧ w.toInt ≤ 7) : f_X7_aboutNow oM w = some (abS oB w) := by
  obtain ⟨b0', b1', b2', b3', b4'⟩ := bnds_m hm
  obtain ⟨m0, m1, m2, -⟩ := hm
  unfold f_X7_aboutNow abS
  rw [m0, m1, m2, hw.2.1]
  rcases w7 h7 with rfl | rfl | rfl | rfl | rfl | rfl | rfl | rfl
  · rfl
  · rfl
  · rfl
  · rw [show (3 : Int32) - 3 = 0 from rfl, b0']; rfl
  · rw [show (4 : Int32) - 3 = 1 from rfl, b1']; rfl
  · rw [show (5 : Int32) - 3 = 2 from rfl, b2']; rfl
  · rw [show (6 : Int32) - 3 = 3 from rfl, b3']; rfl
  · rw [show (7 : Int32) - 3 = 4 from rfl, b4']; rfl
theorem op_about {oX oP oR oT oB oM : St} (h : REL oX oP oR oT oB oM) (v1 : Int32) : ∃ r, f_X6_about oB v1 = some r ∧ f_X7_about oM v1 = some r := by
  obtain ⟨n, hw, hm, hT, hp, hR, c6, c7, c8⟩ := h
  unfold f_X7_about
  rw [within_m, bn1_s, ite10, isSheet_m hm, bn1_s, ite01]
  have q1 : v1 < 0 ↔ v1.toInt < 0 := by rw [Int32.lt_iff_toInt_lt]; rfl
  have q2 : v1 ≤ 7 ↔ v1.toInt ≤ 7 := by rw [Int32.le_iff_toInt_le]; rfl
  by_cases c : (0 : Int) ≤ v1.toInt ∧ v1.toInt ≤ 7
  · rw [if_pos (show Int32.toInt 0 ≤ v1.toInt ∧ v1.toInt ≤ Int32.toInt 7 from c)]
    by_cases hW : (oB.1 0).toInt ≤ 0
    · rw [if_pos hW]
      unfold f_X6_about
      rw [if_neg (by rw [q1]; omega), if_pos (by rw [q2]; omega), isThere_c, bn1_s, ite01, if_pos hW]
      exact ⟨_, rfl, rfl⟩
    · rw [if_neg hW, ab_c hW v1 c, abN_m hw hm v1 c]
      exact ⟨_, rfl, rfl⟩
  · refine ⟨-102, ?_, ?_⟩
    · unfold f_X6_about
      by_cases h5 : v1 < 0
      · rw [if_pos h5]
      · rw [if_neg h5, if_neg (by rw [q2]; rw [q1] at h5; omega)]
    · rw [if_neg (show ¬ (Int32.toInt 0 ≤ v1.toInt ∧ v1.toInt ≤ Int32.toInt 7) from c)]
/-! how many -/
theorem pc_bs (p : Nat → Bool) {n : Nat} (hn : n ≤ 14) : pc (bs p n) = fb_ct p n := by
  unfold pc
  have e : fb_ct (bt (bs p n)) 14 = fb_ct (fun i => decide (i < n) && p i) 14 := fb_ct_cong (fun i hi => bt_bs p n (by omega) i (by omega))
  rw [e, show 14 = n + (14 - n) by omega, fb_ct_split]
  have e1 : fb_ct (fun i => decide (i < n) && p i) n = fb_ct p n := fb_ct_cong (fun i hi => by rw [decide_eq_true hi, Bool.true_and])
  have e2 : fb_ct (fun k => decide (n + k < n) && p (n + k)) (14 - n) = 0 := fb_ct_zero.mpr (fun k _ => by rw [decide_eq_false (by omega), Bool.false_and])
  rw [e1, e2]
  omega
def anyB (own : Nat → Int32) : Nat → Nat → Bool
  | 0, _ => false
  | q + 1, j => anyB own q j || decide (own j = nI q)
theorem anyB_t {own : Nat → Int32} {j : Nat} : ∀ {q : Nat}, anyB own q j = true ↔ ∃ i, i < q ∧ own j = nI i
  | 0 => ⟨fun h => (by cases h), fun h => (by obtain ⟨i, h, _⟩ := h; omega)⟩
  | q + 1 => by
    unfold anyB
    rw [Bool.or_eq_true, anyB_t, decide_eq_true_eq]
    constructor
    · rintro (⟨i, h1, h2⟩ | h)
      · exact ⟨i, by omega, h2⟩
      · exact ⟨q, by omega, h⟩
    · rintro ⟨i, h1, h2⟩
      rcases Nat.lt_or_ge i q with z | z
      · exact Or.inl ⟨i, z, h2⟩
      · rw [show i = q by omega] at h2; exact Or.inr h2
theorem sum_own (own : Nat → Int32) (n : Nat) : ∀ q, q ≤ 7 → fb_sm (fun i => fb_ct (fun j => decide (own j = nI i)) n) q = fb_ct (anyB own q) n
  | 0, _ => (fb_ct_zero.mpr (fun _ _ => rfl)).symm
  | q + 1, h => by
    rw [fb_sm_succ, sum_own own n q (by omega)]
    have e : fb_ct (anyB own (q + 1)) n = fb_ct (fun j => anyB own q j || decide (own j = nI q)) n := rfl
    rw [e, fb_ct_or]
    intro k _ z
    obtain ⟨i, h1, h2⟩ := anyB_t.mp z.1
    have h3 : own k = nI q := by simpa using z.2
    rw [h2] at h3
    have := (nI_eq (by omega) (by omega)).mp h3
    omega
def ocN (oM : St) (n : Nat) : Nat := fb_ct (fun j => decide (owS oM j ≠ -1)) n
set_option maxHeartbeats 4000000 in
theorem owned_c {oR oM : St} {n : Nat} (hn : n ≤ 14) (hR : RR oR oM n) : f_X3_ownedDots oR = some (nI (ocN oM n)) := by
  unfold f_X3_ownedDots
  rcases hR with ⟨r1, r2, r3⟩ | ⟨r1, r2, q, r3⟩
  · have e : ocN oM n = 0 := fb_ct_zero.mpr (fun k _ => by unfold owS; rw [if_pos r2]; rfl)
    rw [e, show fu = 4999 + 1 from rfl, f_X3_ownedDots_L4_s, r3, if_pos (by decide)]
    rfl
  · obtain ⟨s1, s2, s3, s4, s5, s6⟩ := r3
    obtain ⟨s, h1, h2⟩ := lpn (fun fuel k (s : Int32) => f_X3_ownedDots_L4 oR fuel s (nI k)) (fun s => some s) q (fun k s => s = nI (fb_sm (cO oM n) k)) (by
      intro fuel k s hk hs
      refine ⟨_, ?_, rfl⟩
      show f_X3_ownedDots_L4 oR (fuel + 1) s (nI k) = f_X3_ownedDots_L4 oR fuel (nI (fb_sm (cO oM n) (k + 1))) (nI (k + 1))
      have hc : f_X3_ownCount oR (nI k) = some (nI (cO oM n k)) := ownC_c (show k < 7 by omega) hn (s5 k hk)
      rw [f_X3_ownedDots_L4_s, s1, if_neg (nI_ge hk (by omega)), hc, bn1_s, hs, nI_add, nI_1, fb_sm_succ]) (by
      intro fuel s hs
      show f_X3_ownedDots_L4 oR (fuel + 1) s (nI q) = _
      rw [f_X3_ownedDots_L4_s, s1, if_pos (nI_le (Nat.le_refl _) (by omega))]) fu 0 0 (by omega) (by unfold fu; omega) rfl
    have e : fb_sm (cO oM n) q = ocN oM n := by
      have e1 : fb_sm (cO oM n) q = fb_sm (fun i => fb_ct (fun j => decide (oM.2.2 15 j = nI i)) n) q := fb_sm_cong (fun i _ => pc_bs _ hn)
      rw [e1, sum_own _ n q (by omega)]
      apply fb_ct_cong
      intro j hj
      unfold owS
      rw [r2, if_neg (by decide)]
      rcases s6 j hj with h | ⟨i, hi, h⟩
      · rw [decide_eq_false (fun z => z h)]
        rcases Bool.eq_false_or_eq_true (anyB (oM.2.2 15) q j) with z | z
        · obtain ⟨i, hi, h9⟩ := anyB_t.mp z
          rw [h] at h9
          exact absurd h9 (m1_nI (by omega))
        · exact z
      · rw [decide_eq_true (show oM.2.2 15 j ≠ -1 from fun z => by rw [h] at z; exact m1_nI (show i < 1000 by omega) z.symm)]
        exact anyB_t.mpr ⟨i, hi, h⟩
    rw [← e, ← h2]
    exact h1
theorem ofr_m {oM : St} {n : Nat} (hn : n ≤ 14) (h5 : oM.1 5 = nI n) : f_X7_ofRings oM = some (nI (ocN oM n)) := by
  obtain ⟨s, h1, h2⟩ := lpn (fun fuel k (s : Int32) => f_X7_ofRings_L4 oM fuel s (nI k)) (fun s => some s) n (fun k s => s = nI (fb_ct (fun j => decide (owS oM j ≠ -1)) k)) (by
    intro fuel k s hk hs
    refine ⟨_, ?_, rfl⟩
    show f_X7_ofRings_L4 oM (fuel + 1) s (nI k) = f_X7_ofRings_L4 oM fuel (nI (fb_ct (fun j => decide (owS oM j ≠ -1)) (k + 1))) (nI (k + 1))
    rw [f_X7_ofRings_L4_s, h5, if_neg (nI_ge hk (by omega)), ringOf_m (by omega), bn1_s, hs, nI_1, nI_1, fb_ct_succ]
    by_cases c : owS oM k = -1
    · rw [if_pos c, if_neg (by simp [c]), show (0 : Int32) = nI 0 from rfl, nI_add]
    · rw [if_neg c, if_pos (by simp [c])]) (by
    intro fuel s hs
    show f_X7_ofRings_L4 oM (fuel + 1) s (nI n) = _
    rw [f_X7_ofRings_L4_s, h5, if_pos (nI_le (Nat.le_refl _) (by omega))]) fu 0 0 (by omega) (by unfold fu; omega) rfl
  rw [h2] at h1
  exact h1
/-- count: one number of both -/
theorem cnt_both {oX oP oR oT oB oM : St} (h : REL oX oP oR oT oB oM) (v1 : Int32) : ∃ r, f_X6_count oX oP oR oB v1 = some r ∧ f_X7_howMany oM v1 = some r := by
  obtain ⟨n, hw, hm, hT, hp, hR, c6, c7, c8⟩ := h
  obtain ⟨p, -, p1, p2, -⟩ := hp
  unfold f_X6_count f_X7_howMany
  rw [owned_c hw.1 hR, ofr_m hw.1 hm.2.2.1, bn1_s, hw.2.1, hm.2.2.1, p1, p2, c6, c7, c8]
  have e : (if oM.1 10 = 0 then some 0 else some (oM.1 11)) = some (oR.1 4) := by
    rcases hR with ⟨r1, r2, r3⟩ | ⟨r1, r2, q, r3⟩
    · rw [if_pos r2, r3]
    · rw [r2, if_neg (by decide), r3.1, r3.2.1]
  rw [e]
  simp only [sm_if]
  exact ⟨_, rfl, rfl⟩
theorem op_count {oX oP oR oT oB oM : St} (h : REL oX oP oR oT oB oM) (v1 : Int32) : ∃ r, f_X6_count oX oP oR oB v1 = some r ∧ f_X7_count oM v1 = some r := by
  obtain ⟨r, h1, h2⟩ := cnt_both h v1
  refine ⟨r, h1, ?_⟩
  unfold f_X7_count
  rw [h2]
  rfl
