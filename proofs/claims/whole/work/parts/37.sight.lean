/-! seen from a centre -/
theorem bs_s (p : Nat → Bool) (k : Nat) : bs p (k + 1) = if p k then bs p k ||| ((1 : Int32) <<< (nI k &&& 31)) else bs p k := rfl
theorem os_s (q : Nat → Bool) (f : Nat → Nat) (k : Nat) : os q f (k + 1) = if q k then os q f k ||| ((1 : Int32) <<< (nI (f k) &&& 31)) else os q f k := rfl
def isG (oG : St) (cx cy r : Nat) : Prop := oG.1 1 = nI (2 * cx + 1) ∧ oG.1 2 = nI (2 * cy + 1) ∧ oG.1 3 = nI r
theorem nI_21 (a : Nat) : 2 * nI a + 1 = nI (2 * a + 1) := by
  rw [show (2 : Int32) = nI 2 from rfl, nI_mul, nI_1]
theorem from_c (oG : St) {k : Nat} (hk : k < 2 ^ 31) : ∃ oG', f_X4_from oG (nI k) = some oG' ∧ isG oG' (k % 32) (k / 32 % 32) (k / 1024 % 32) := by
  unfold f_X4_from
  rw [keyX_n, keyY_n hk, keyR_n hk, bn1_s, bn1_s, bn1_s]
  exact ⟨_, rfl, nI_21 _, nI_21 _, rfl⟩
def fU (oB : St) (cx j : Nat) : Int := 2 * pX oB j - (2 * (cx : Int) + 1)
def fV (oB : St) (cy j : Nat) : Int := 2 * pY oB j - (2 * (cy : Int) + 1)
def far (oB : St) (cx cy j : Nat) : Int := fU oB cx j * fU oB cx j + fV oB cy j * fV oB cy j
def loS (oB : St) (r : Nat) : Int := if 0 < 2 * (r : Int) - (oB.1 5).toInt then 2 * (r : Int) - (oB.1 5).toInt else 0
def hiS (oB : St) (r : Nat) : Int := 2 * (r : Int) + 2 + (oB.1 5).toInt
def supS (oB : St) (cx cy r j : Nat) : Bool := decide (loS oB r * loS oB r ≤ far oB cx cy j) && (decide (far oB cx cy j ≤ hiS oB r * hiS oB r) && agS oB j (2 * (cx : Int) + 1) (2 * (cy : Int) + 1) 2)
theorem bnI {k m : Nat} (h : k ≤ m) (hm : m < 2147483648) : bI (nI k) (k : Int) m := ⟨nI_toInt (by omega), by omega⟩
theorem bnI2 {k m : Nat} (h : 2 * k + 1 ≤ m) (hm : m < 2147483648) : bI (nI (2 * k + 1)) (2 * (k : Int) + 1) m := ⟨by rw [nI_toInt (by omega)]; omega, by omega⟩
theorem fU_b {oB oG : St} {n j cx cy r : Nat} (hw : wB oB n) (hj : j < n) (hG : isG oG cx cy r) (hx : cx < 32) (hy : cy < 32) : bI (2 * oB.2.2 8 j - oG.1 1) (fU oB cx j) 123 ∧ bI (2 * oB.2.2 9 j - oG.1 2) (fV oB cy j) 123 := by
  obtain ⟨xa, ya, xa0, ya0⟩ := hw.x hj
  rw [hG.1, hG.2.1]
  exact ⟨(b2.mul xa (by decide)).sub (bnI2 (m := 63) (by omega) (by decide)) (by decide), (b2.mul ya (by decide)).sub (bnI2 (m := 63) (by omega) (by decide)) (by decide)⟩
theorem sq_c {oB oG : St} {n j cx cy r : Nat} (hw : wB oB n) (hj : j < n) (hG : isG oG cx cy r) (hx : cx < 32) (hy : cy < 32) : ∃ v, f_X4_squared oG oB (nI j) = some v ∧ bI v (far oB cx cy j) 30258 := by
  have hn := hw.1
  obtain ⟨u, v⟩ := fU_b hw hj hG hx hy
  unfold f_X4_squared
  rw [ag_n (show j < 14 by omega) (by decide), ag_n (show j < 14 by omega) (by decide), bn1_s, bn1_s]
  exact ⟨_, rfl, (u.mul u (by decide)).add (v.mul v (by decide)) (by decide)⟩
theorem slack_b {oB : St} {n : Nat} (hw : wB oB n) : bI (oB.1 5) (oB.1 5).toInt 4 := by
  obtain ⟨-, -, -, -, -, -, hs, -⟩ := hw
  exact ⟨rfl, by omega⟩
set_option maxHeartbeats 4000000 in
theorem sup_c {oB oG : St} {n j cx cy r : Nat} (hw : wB oB n) (hj : j < n) (hG : isG oG cx cy r) (hx : cx < 32) (hy : cy < 32) (hr : r < 32) : f_X4_isSupportedBy oG oB (nI j) = some (if supS oB cx cy r j then 1 else 0) := by
  obtain ⟨v, hv, bv⟩ := sq_c hw hj hG hx hy
  have sl := slack_b hw
  have g1 : bI (oG.1 1) (2 * (cx : Int) + 1) 63 := by rw [hG.1]; exact bnI2 (by omega) (by decide)
  have g2 : bI (oG.1 2) (2 * (cy : Int) + 1) 63 := by rw [hG.2.1]; exact bnI2 (by omega) (by decide)
  have rr : bI (oG.1 3) (r : Int) 31 := by rw [hG.2.2]; exact bnI (by omega) (by decide)
  have lo0 := (b2.mul rr (by decide)).sub sl (by decide)
  have lo : bI (if 0 < 2 * oG.1 3 - oB.1 5 then 2 * oG.1 3 - oB.1 5 else 0) (loS oB r) 66 := by
    unfold loS
    have e : 0 < 2 * oG.1 3 - oB.1 5 ↔ 0 < 2 * (r : Int) - (oB.1 5).toInt := b0.lt lo0
    by_cases h : 0 < 2 * (r : Int) - (oB.1 5).toInt
    · rw [if_pos (e.mpr h), if_pos h]; exact lo0
    · rw [if_neg (fun z => h (e.mp z)), if_neg h]; exact b0.mono (by decide)
  have hi : bI (2 * oG.1 3 + 2 + oB.1 5) (hiS oB r) 68 := ((b2.mul rr (by decide)).add b2 (by decide)).add sl (by decide)
  have l2' := lo.mul lo (by decide)
  have h2' := hi.mul hi (by decide)
  unfold f_X4_isSupportedBy
  rw [hv, ag_c hw hj (g1.mono (by decide)) (g2.mono (by decide)) (b2.mono (by decide))]
  simp only [bn1_s, ite10]
  simp only [bv.lt l2', h2'.lt bv]
  unfold supS
  by_cases h1 : far oB cx cy j < loS oB r * loS oB r
  · rw [if_pos h1, decide_eq_false (by omega)]; rfl
  · rw [if_neg h1, decide_eq_true (show loS oB r * loS oB r ≤ far oB cx cy j by omega)]
    by_cases h3 : hiS oB r * hiS oB r < far oB cx cy j
    · rw [if_pos h3, decide_eq_false (show ¬ far oB cx cy j ≤ hiS oB r * hiS oB r by omega)]; rfl
    · rw [if_neg h3, decide_eq_true (show far oB cx cy j ≤ hiS oB r * hiS oB r by omega)]
      cases agS oB j (2 * (cx : Int) + 1) (2 * (cy : Int) + 1) 2 <;> rfl
theorem farOf_m {oB oM : St} {n j cx cy : Nat} (hw : wB oB n) (hm : mB oM oB n) (hj : j < n) (hx : cx < 32) (hy : cy < 32) : ∃ v, f_X7_farOf oM (nI cx) (nI cy) (nI j) = some v ∧ bI v (far oB cx cy j) 30752 := by
  have hn := hw.1
  obtain ⟨xa, ya, xa0, ya0⟩ := hw.x hj
  obtain ⟨-, -, -, hxy, -⟩ := hm
  unfold f_X7_farOf
  rw [ag_n (show j < 14 by omega) (by decide), ag_n (show j < 14 by omega) (by decide), bn1_s, bn1_s, (hxy j hj).1, (hxy j hj).2.1]
  have u := ((b2.mul xa (by decide)).sub (b2.mul (bnI (k := cx) (m := 31) (by omega) (by decide)) (by decide)) (by decide)).sub b1 (by decide)
  have v := ((b2.mul ya (by decide)).sub (b2.mul (bnI (k := cy) (m := 31) (by omega) (by decide)) (by decide)) (by decide)).sub b1 (by decide)
  have e1 : 2 * pX oB j - 2 * (cx : Int) - 1 = fU oB cx j := by unfold fU; omega
  have e2 : 2 * pY oB j - 2 * (cy : Int) - 1 = fV oB cy j := by unfold fV; omega
  rw [e1] at u
  rw [e2] at v
  exact ⟨_, rfl, ((u.mul u (by decide)).add (v.mul v (by decide)) (by decide)).mono (by decide)⟩
set_option maxHeartbeats 4000000 in
theorem sup_m {oB oM : St} {n j cx cy r : Nat} (hw : wB oB n) (hm : mB oM oB n) (hj : j < n) (hx : cx < 32) (hy : cy < 32) (hr : r < 32) : f_X7_supports oM (nI cx) (nI cy) (nI r) (nI j) = some (if supS oB cx cy r j then 1 else 0) := by
  obtain ⟨v, hv, bv⟩ := farOf_m hw hm hj hx hy
  have sl := slack_b hw
  have hsl : ag 5 (oM.2.2 9) 2 = some (oB.1 5) := by rw [← hm.2.2.2.2.2.2.1]; exact ag_n (k := 2) (by decide) (by decide)
  have rr : bI (nI r) (r : Int) 31 := bnI (by omega) (by decide)
  have lo0 := (b2.mul rr (by decide)).sub sl (by decide)
  have hi : bI (2 * nI r + 2 + oB.1 5) (hiS oB r) 68 := ((b2.mul rr (by decide)).add b2 (by decide)).add sl (by decide)
  have h2' := hi.mul hi (by decide)
  have l2' := lo0.mul lo0 (by decide)
  have c1 : bL (2 * (nI cx).toInt64 + 1) (2 * (cx : Int) + 1) 63 := (l2.mul (bnI (k := cx) (m := 31) (by omega) (by decide)).wide (by decide)).add l1 (by decide)
  have c2 : bL (2 * (nI cy).toInt64 + 1) (2 * (cy : Int) + 1) 63 := (l2.mul (bnI (k := cy) (m := 31) (by omega) (by decide)).wide (by decide)).add l1 (by decide)
  unfold f_X7_supports
  rw [hv, hsl, ag_m hw hm hj (c1.mono (by decide)) (c2.mono (by decide)) (l2.mono (by decide))]
  simp only [bn1_s, ite10]
  have lz : 2 * nI r - oB.1 5 ≤ 0 ↔ 2 * (r : Int) - (oB.1 5).toInt ≤ 0 := lo0.le b0
  simp only [bv.lt l2', h2'.lt bv, lz]
  unfold supS
  have hf0 : 0 ≤ far oB cx cy j := by
    unfold far
    have a1 := Int.mul_self_le_mul_self (a := 0) (b := (fU oB cx j).natAbs) (by omega) (by omega)
    have a2 : 0 ≤ fU oB cx j * fU oB cx j := by rw [← Int.natAbs_mul_self]; omega
    have a3 : 0 ≤ fV oB cy j * fV oB cy j := by rw [← Int.natAbs_mul_self]; omega
    omega
  by_cases h0 : 2 * (r : Int) - (oB.1 5).toInt ≤ 0
  · have e : loS oB r = 0 := by unfold loS; rw [if_neg (by omega)]
    rw [if_pos h0, e, decide_eq_true (show (0 : Int) * 0 ≤ far oB cx cy j by omega)]
    by_cases h3 : hiS oB r * hiS oB r < far oB cx cy j
    · rw [if_pos h3, decide_eq_false (show ¬ far oB cx cy j ≤ hiS oB r * hiS oB r by omega)]; rfl
    · rw [if_neg h3, decide_eq_true (show far oB cx cy j ≤ hiS oB r * hiS oB r by omega)]
      cases agS oB j (2 * (cx : Int) + 1) (2 * (cy : Int) + 1) 2 <;> rfl
  · have e : loS oB r = 2 * (r : Int) - (oB.1 5).toInt := by unfold loS; rw [if_pos (by omega)]
    rw [if_neg h0, ← e]
    by_cases h1 : far oB cx cy j < loS oB r * loS oB r
    · rw [if_pos h1, decide_eq_false (by omega)]; rfl
    · rw [if_neg h1, decide_eq_true (show loS oB r * loS oB r ≤ far oB cx cy j by omega)]
      by_cases h3 : hiS oB r * hiS oB r < far oB cx cy j
      · rw [if_pos h3, decide_eq_false (show ¬ far oB cx cy j ≤ hiS oB r * hiS oB r by omega)]; rfl
      · rw [if_neg h3, decide_eq_true (show far oB cx cy j ≤ hiS oB r * hiS oB r by omega)]
        cases agS oB j (2 * (cx : Int) + 1) (2 * (cy : Int) + 1) 2 <;> rfl
/-! the supporters as a set -/
def suS (oB : St) (cx cy r n : Nat) : Int32 := bs (supS oB cx cy r) n
theorem sups_c {oB oG : St} {n cx cy r : Nat} (hw : wB oB n) (hG : isG oG cx cy r) (hx : cx < 32) (hy : cy < 32) (hr : r < 32) : f_X4_supporters oG oB = some (suS oB cx cy r n) := by
  have hn := hw.1
  obtain ⟨s, h1, h2⟩ := lpn (fun fuel k (s : Int32) => f_X4_supporters_L4 oG oB fuel s (nI k)) (fun s => some s) n (fun k s => s = bs (supS oB cx cy r) k) (by
    intro fuel k s hk hs
    refine ⟨bs (supS oB cx cy r) (k + 1), ?_, rfl⟩
    show f_X4_supporters_L4 oG oB (fuel + 1) s (nI k) = f_X4_supporters_L4 oG oB fuel (bs (supS oB cx cy r) (k + 1)) (nI (k + 1))
    rw [f_X4_supporters_L4_s, hw.2.1, if_neg (nI_ge hk (by omega)), sup_c hw hk hG hx hy hr, bn1_s, ite10, bn1_s, nI_1, hs]
    rw [bs_s]
    split <;> rfl) (by
    intro fuel s hs
    show f_X4_supporters_L4 oG oB (fuel + 1) s (nI n) = _
    rw [f_X4_supporters_L4_s, hw.2.1, if_pos (nI_le (Nat.le_refl _) (by omega))]) fu 0 0 (by omega) (by unfold fu; omega) rfl
  rw [h2] at h1
  exact h1
theorem sups_m {oB oM : St} {n cx cy r : Nat} (hw : wB oB n) (hm : mB oM oB n) (hx : cx < 32) (hy : cy < 32) (hr : r < 32) : f_X7_supporters oM (nI cx) (nI cy) (nI r) = some (suS oB cx cy r n) := by
  have hn := hw.1
  obtain ⟨s, h1, h2⟩ := lpn (fun fuel k (s : Int32) => f_X7_supporters_L6 oM (nI cx) (nI cy) (nI r) fuel s (nI k)) (fun s => some s) n (fun k s => s = bs (supS oB cx cy r) k) (by
    intro fuel k s hk hs
    refine ⟨bs (supS oB cx cy r) (k + 1), ?_, rfl⟩
    show f_X7_supporters_L6 oM (nI cx) (nI cy) (nI r) (fuel + 1) s (nI k) = f_X7_supporters_L6 oM (nI cx) (nI cy) (nI r) fuel (bs (supS oB cx cy r) (k + 1)) (nI (k + 1))
    rw [f_X7_supporters_L6_s, hm.2.2.1, if_neg (nI_ge hk (by omega)), sup_m hw hm hk hx hy hr, bn1_s, ite10, bn1_s, nI_1, nI_or0, hs]
    rw [bs_s]
    split <;> rfl) (by
    intro fuel s hs
    show f_X7_supporters_L6 oM (nI cx) (nI cy) (nI r) (fuel + 1) s (nI n) = _
    rw [f_X7_supporters_L6_s, hm.2.2.1, if_pos (nI_le (Nat.le_refl _) (by omega))]) fu 0 0 (by omega) (by unfold fu; omega) rfl
  rw [h2] at h1
  exact h1
/-! octants and spans -/
def ocS (oB : St) (cx cy j : Nat) : Nat := (if 0 < fV oB cy j then (if 0 < fU oB cx j then 0 else 2) else (if fU oB cx j < 0 then 4 else 6)) + (if (fU oB cx j).natAbs < (fV oB cy j).natAbs then 1 else 0)
theorem ocS_lt (oB : St) (cx cy j : Nat) : ocS oB cx cy j < 8 := by
  unfold ocS
  split <;> split <;> split <;> omega
theorem sq_abs (u v : Int) : v * v ≤ u * u ↔ v.natAbs ≤ u.natAbs := by
  rw [← Int.natAbs_mul_self, ← Int.natAbs_mul_self (a := u), Int.ofNat_le]
  constructor
  · intro h
    rcases Nat.lt_or_ge u.natAbs v.natAbs with q | q
    · exact absurd (Nat.mul_self_lt_mul_self q) (by omega)
    · exact q
  · intro h
    exact Nat.mul_le_mul h h
set_option maxHeartbeats 4000000 in
theorem oct_c {oB oG : St} {n j cx cy r : Nat} (hw : wB oB n) (hj : j < n) (hG : isG oG cx cy r) (hx : cx < 32) (hy : cy < 32) : f_X4_octant oG oB (nI j) = some (nI (ocS oB cx cy j)) := by
  have hn := hw.1
  obtain ⟨u, v⟩ := fU_b hw hj hG hx hy
  have uu := u.mul u (by decide)
  have vv := v.mul v (by decide)
  unfold f_X4_octant
  rw [ag_n (show j < 14 by omega) (by decide), ag_n (show j < 14 by omega) (by decide), bn1_s, bn1_s]
  simp only [v.le b0, b0.le u, u.le b0, vv.le uu, sq_abs]
  unfold ocS
  generalize fU oB cx j = U
  generalize fV oB cy j = V
  by_cases h1 : V ≤ 0
  · rw [if_pos h1, if_neg (show ¬ 0 < V by omega)]
    by_cases h2 : 0 ≤ U
    · rw [if_pos h2, if_neg (show ¬ U < 0 by omega)]
      by_cases h3 : V.natAbs ≤ U.natAbs
      · rw [if_pos h3, if_neg (show ¬ U.natAbs < V.natAbs by omega)]; rfl
      · rw [if_neg h3, if_pos (show U.natAbs < V.natAbs by omega)]; rfl
    · rw [if_neg h2, if_pos (show U < 0 by omega)]
      by_cases h3 : V.natAbs ≤ U.natAbs
      · rw [if_pos h3, if_neg (show ¬ U.natAbs < V.natAbs by omega)]; rfl
      · rw [if_neg h3, if_pos (show U.natAbs < V.natAbs by omega)]; rfl
  · rw [if_neg h1, if_pos (show 0 < V by omega)]
    by_cases h2 : U ≤ 0
    · rw [if_pos h2, if_neg (show ¬ 0 < U by omega)]
      by_cases h3 : V.natAbs ≤ U.natAbs
      · rw [if_pos h3, if_neg (show ¬ U.natAbs < V.natAbs by omega)]; rfl
      · rw [if_neg h3, if_pos (show U.natAbs < V.natAbs by omega)]; rfl
    · rw [if_neg h2, if_pos (show 0 < U by omega)]
      by_cases h3 : V.natAbs ≤ U.natAbs
      · rw [if_pos h3, if_neg (show ¬ U.natAbs < V.natAbs by omega)]; rfl
      · rw [if_neg h3, if_pos (show U.natAbs < V.natAbs by omega)]; rfl
theorem abs_m {x : Int32} {v : Int} {m : Nat} (h : bI x v m) (hm : m < 2147483648) : ∃ y, f_X7_abs x = some y ∧ bI y (v.natAbs : Int) m := by
  unfold f_X7_abs
  by_cases h0 : 0 ≤ v
  · rw [if_pos (h.ge0.mpr h0)]
    refine ⟨_, rfl, ?_, ?_⟩
    · rw [h.1]; omega
    · have := h.2; omega
  · rw [if_neg (fun z => h0 (h.ge0.mp z))]
    have hn := h.neg hm
    refine ⟨_, rfl, ?_, ?_⟩
    · rw [hn.1]; omega
    · have := h.2; omega
set_option maxHeartbeats 4000000 in
theorem oct_m {oB oM : St} {n j cx cy : Nat} (hw : wB oB n) (hm : mB oM oB n) (hj : j < n) (hx : cx < 32) (hy : cy < 32) : f_X7_octantOf oM (nI cx) (nI cy) (nI j) = some (nI (ocS oB cx cy j)) := by
  have hn := hw.1
  obtain ⟨xa, ya, xa0, ya0⟩ := hw.x hj
  obtain ⟨-, -, -, hxy, -⟩ := hm
  have u := ((b2.mul xa (by decide)).sub (b2.mul (bnI (k := cx) (m := 31) (by omega) (by decide)) (by decide)) (by decide)).sub b1 (by decide)
  have v := ((b2.mul ya (by decide)).sub (b2.mul (bnI (k := cy) (m := 31) (by omega) (by decide)) (by decide)) (by decide)).sub b1 (by decide)
  have e1 : 2 * pX oB j - 2 * (cx : Int) - 1 = fU oB cx j := by unfold fU; omega
  have e2 : 2 * pY oB j - 2 * (cy : Int) - 1 = fV oB cy j := by unfold fV; omega
  rw [e1] at u
  rw [e2] at v
  obtain ⟨au, q1, q2⟩ := abs_m u (by decide)
  obtain ⟨av, q3, q4⟩ := abs_m v (by decide)
  unfold f_X7_octantOf
  rw [ag_n (show j < 14 by omega) (by decide), ag_n (show j < 14 by omega) (by decide), bn1_s, bn1_s, (hxy j hj).1, (hxy j hj).2.1, q1, q3]
  simp only [bn1_s]
  simp only [v.le b0, b0.le u, u.le b0, q4.le q2]
  unfold ocS
  generalize fU oB cx j = U
  generalize fV oB cy j = V
  by_cases h1 : V ≤ 0
  · rw [if_pos h1, if_neg (show ¬ 0 < V by omega)]
    by_cases h2 : 0 ≤ U
    · rw [if_pos h2, if_neg (show ¬ U < 0 by omega)]
      by_cases h3 : (V.natAbs : Int) ≤ (U.natAbs : Int)
      · rw [if_pos h3, if_neg (show ¬ U.natAbs < V.natAbs by omega)]; rfl
      · rw [if_neg h3, if_pos (show U.natAbs < V.natAbs by omega)]; rfl
    · rw [if_neg h2, if_pos (show U < 0 by omega)]
      by_cases h3 : (V.natAbs : Int) ≤ (U.natAbs : Int)
      · rw [if_pos h3, if_neg (show ¬ U.natAbs < V.natAbs by omega)]; rfl
      · rw [if_neg h3, if_pos (show U.natAbs < V.natAbs by omega)]; rfl
  · rw [if_neg h1, if_pos (show 0 < V by omega)]
    by_cases h2 : U ≤ 0
    · rw [if_pos h2, if_neg (show ¬ 0 < U by omega)]
      by_cases h3 : (V.natAbs : Int) ≤ (U.natAbs : Int)
      · rw [if_pos h3, if_neg (show ¬ U.natAbs < V.natAbs by omega)]; rfl
      · rw [if_neg h3, if_pos (show U.natAbs < V.natAbs by omega)]; rfl
    · rw [if_neg h2, if_pos (show 0 < U by omega)]
      by_cases h3 : (V.natAbs : Int) ≤ (U.natAbs : Int)
      · rw [if_pos h3, if_neg (show ¬ U.natAbs < V.natAbs by omega)]; rfl
      · rw [if_neg h3, if_pos (show U.natAbs < V.natAbs by omega)]; rfl
def spS (oB : St) (cx cy n : Nat) (set : Int32) : Nat := pc (os (bt set) (ocS oB cx cy) n)
theorem span_c {oB oG : St} {n cx cy r : Nat} (hw : wB oB n) (hG : isG oG cx cy r) (hx : cx < 32) (hy : cy < 32) (set : Int32) : f_X4_span oG oB set = some (nI (spS oB cx cy n set)) := by
  have hn := hw.1
  obtain ⟨s, h1, h2⟩ := lpn (fun fuel k (s : Int32) => f_X4_span_L4 oG oB set fuel s (nI k)) (fun s => bn1 (f_J6_bitCount_0f7a4 s) fun x2 => some x2) n (fun k s => s = os (bt set) (ocS oB cx cy) k) (by
    intro fuel k s hk hs
    refine ⟨os (bt set) (ocS oB cx cy) (k + 1), ?_, rfl⟩
    show f_X4_span_L4 oG oB set (fuel + 1) s (nI k) = f_X4_span_L4 oG oB set fuel (os (bt set) (ocS oB cx cy) (k + 1)) (nI (k + 1))
    rw [f_X4_span_L4_s, hw.2.1, if_neg (nI_ge hk (by omega)), oct_c hw hk hG hx hy, bn1_s, bn1_s, nI_1, hs]
    rw [os_s]
    by_cases hb : bt set k = true
    · rw [if_pos ((b_is set (by omega)).mpr hb), if_pos hb]
    · rw [if_neg (fun z => hb ((b_is set (by omega)).mp z)), if_neg hb]) (by
    intro fuel s hs
    show f_X4_span_L4 oG oB set (fuel + 1) s (nI n) = _
    rw [f_X4_span_L4_s, hw.2.1, if_pos (nI_le (Nat.le_refl _) (by omega))]) fu 0 0 (by omega) (by unfold fu; omega) rfl
  rw [h2, bc_c (s14_os _ _ (fun j => by have := ocS_lt oB cx cy j; omega) n)] at h1
  exact h1
theorem span_m {oB oM : St} {n cx cy : Nat} (hw : wB oB n) (hm : mB oM oB n) (hx : cx < 32) (hy : cy < 32) (set : Int32) : f_X7_spanOf oM (nI cx) (nI cy) set = some (nI (spS oB cx cy n set)) := by
  have hn := hw.1
  obtain ⟨s, h1, h2⟩ := lpn (fun fuel k (s : Int32) => f_X7_spanOf_L6 oM (nI cx) (nI cy) set fuel s (nI k)) (fun s => bn1 (f_X7_size s) fun x2 => some x2) n (fun k s => s = os (bt set) (ocS oB cx cy) k) (by
    intro fuel k s hk hs
    refine ⟨os (bt set) (ocS oB cx cy) (k + 1), ?_, rfl⟩
    show f_X7_spanOf_L6 oM (nI cx) (nI cy) set (fuel + 1) s (nI k) = f_X7_spanOf_L6 oM (nI cx) (nI cy) set fuel (os (bt set) (ocS oB cx cy) (k + 1)) (nI (k + 1))
    rw [f_X7_spanOf_L6_s, hm.2.2.1, if_neg (nI_ge hk (by omega)), oct_m hw hm hk hx hy, bn1_s, bn1_s, nI_1, nI_or0, hs]
    rw [os_s]
    by_cases hb : bt set k = true
    · rw [if_pos ((b_is set (by omega)).mpr hb), if_pos hb]
    · rw [if_neg (fun z => hb ((b_is set (by omega)).mp z)), if_neg hb]) (by
    intro fuel s hs
    show f_X7_spanOf_L6 oM (nI cx) (nI cy) set (fuel + 1) s (nI n) = _
    rw [f_X7_spanOf_L6_s, hm.2.2.1, if_pos (nI_le (Nat.le_refl _) (by omega))]) fu 0 0 (by omega) (by unfold fu; omega) rfl
  rw [h2, size_m] at h1
  exact h1
