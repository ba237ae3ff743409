theorem shr1 : (((1 : Int32).toInt64 &&& 63).toBitVec.smod 64).toNat = 1 := by decide +kernel
theorem sq_lt {a b : Nat} (h : a * a < b * b) : a < b := by
  rcases Nat.lt_or_ge a b with q | q
  · exact q
  · exact absurd (Nat.mul_le_mul q q) (by omega)
set_option maxHeartbeats 4000000 in
theorem root_L {N : Nat} (hN : N < 4000000000000) : ∀ (i r fuel : Nat), i ≤ 21 → r + 2 ^ i ≤ 2097152 → r * r ≤ N → N < (r + 2 ^ i) * (r + 2 ^ i) → i < fuel → ∃ q, f_X1_rootOf_L7 (lN N) fuel (lN r) (lN (2 ^ i / 2)) = some (nI q) ∧ q * q ≤ N ∧ N < (q + 1) * (q + 1)
  | 0, r, 0, _, _, _, _, h => by omega
  | 0, r, fuel + 1, _, _, h1, h2, _ => by
    refine ⟨r, ?_, h1, h2⟩
    rw [f_X1_rootOf_L7_s, if_pos (by rw [lg_cmp_le]; decide), lN_i]
  | i + 1, r, 0, _, _, _, _, h => by omega
  | i + 1, r, fuel + 1, hi, hr, h1, h2, hf => by
    have e : 2 ^ (i + 1) / 2 = 2 ^ i := by rw [Nat.pow_succ]; omega
    have hp : 0 < 2 ^ i := Nat.two_pow_pos i
    have hpi : 2 ^ i ≤ 2 ^ 20 := Nat.pow_le_pow_right (by omega) (by omega)
    have e2 : 2 ^ (i + 1) = 2 ^ i + 2 ^ i := by rw [Nat.pow_succ]; omega
    rw [e2] at h2 hr
    have hsh : lN (2 ^ i) >>> ((1 : Int32).toInt64 &&& 63) = lN (2 ^ i / 2) := by
      have := pf_shr (a := 2 ^ i) shr1 (by omega)
      rw [this]
    have hq : (r + 2 ^ i) * (r + 2 ^ i) ≤ 2097152 * 2097152 := Nat.mul_le_mul (by omega) (by omega)
    rw [f_X1_rootOf_L7_s, e, if_neg (by rw [lg_cmp_le, Int64.le_iff_toInt_le, pf_lI (by omega)]; show ¬ ((2 ^ i : Nat) : Int) ≤ 0; omega)]
    rw [lN_add, lN_mul, hsh, bn1_s, bn1_s]
    have hc : 0 < lg_cmp (lN ((r + 2 ^ i) * (r + 2 ^ i))) (lN N) ↔ N < (r + 2 ^ i) * (r + 2 ^ i) := by
      rw [lg_cmp_gt, Int64.lt_iff_toInt_lt, pf_lI (by omega), pf_lI (by omega)]
      omega
    by_cases h : N < (r + 2 ^ i) * (r + 2 ^ i)
    · rw [if_pos (hc.mpr h)]
      exact root_L hN i r fuel (by omega) (by omega) h1 h (by omega)
    · rw [if_neg (fun z => h (hc.mp z))]
      exact root_L hN i (r + 2 ^ i) fuel (by omega) (by omega) (by omega) (by rw [Nat.add_assoc]; exact h2) (by omega)
theorem root_c {N : Nat} (hN : N < 10000000000) : f_X1_rootOf (lN N) = some (nI (rt 100000 N)) := by
  obtain ⟨q, h1, h2, h3⟩ := root_L (N := N) (by omega) 21 0 fu (by omega) (by decide) (Nat.zero_le _) (Nat.lt_of_lt_of_le hN (by decide)) (by unfold fu; omega)
  have hq : q < 100000 := sq_lt (by omega)
  have e := rt_one h2 h3 100000 (by omega)
  rw [e]
  exact h1
/-! the squared radius over the divisor's square -/
def cN (oB : St) (a b c : Nat) : Nat := (cU oB a b c).natAbs * (cU oB a b c).natAbs + (cV oB a b c).natAbs * (cV oB a b c).natAbs
def cDn (oB : St) (a b c : Nat) : Nat := (cD oB a b c).natAbs
def rS (oB : St) (a b c : Nat) : Nat := rt 100000 (cN oB a b c / (cDn oB a b c * cDn oB a b c))
theorem cN_i (oB : St) (a b c : Nat) : ((cN oB a b c : Nat) : Int) = cU oB a b c * cU oB a b c + cV oB a b c * cV oB a b c := by
  unfold cN
  rw [Int.natCast_add, Int.natAbs_mul_self, Int.natAbs_mul_self]
theorem cDn_i (oB : St) (a b c : Nat) : ((cDn oB a b c : Nat) : Int) = cD oB a b c := by
  have := cD_nn oB a b c
  unfold cDn
  omega
theorem sg_abs (a : Int) : (sg a).natAbs ≤ 1 := by
  unfold sg
  split <;> decide
theorem cUV_abs {oB : St} {n a b c : Nat} (hw : wB oB n) (ha : a < n) (hb : b < n) (hc : c < n) : (cU oB a b c).natAbs ≤ 108000 ∧ (cV oB a b c).natAbs ≤ 108000 := by
  obtain ⟨xa, ya, xa0, ya0⟩ := hw.x ha
  obtain ⟨xb, yb, xb0, yb0⟩ := hw.x hb
  obtain ⟨xc, yc, xc0, yc0⟩ := hw.x hc
  have dx := xb.diff xa xb0 xa0
  have dy := yb.diff ya yb0 ya0
  have du := xc.diff xa xc0 xa0
  have dv := yc.diff ya yc0 ya0
  have one := (dx.mul dx (by decide)).add (dy.mul dy (by decide)) (by decide)
  have two := (du.mul du (by decide)).add (dv.mul dv (by decide)) (by decide)
  have p1 := (dv.mul one (by decide)).sub (dy.mul two (by decide)) (by decide)
  have p2 := (dx.mul two (by decide)).sub (du.mul one (by decide)) (by decide)
  exact ⟨Nat.le_trans (abs_mul_le (sg_abs _) p1.2) (by decide), Nat.le_trans (abs_mul_le (sg_abs _) p2.2) (by decide)⟩
theorem cN_le {oB : St} {n a b c : Nat} (hw : wB oB n) (ha : a < n) (hb : b < n) (hc : c < n) : cN oB a b c ≤ 23328000000 := by
  obtain ⟨h1, h2⟩ := cUV_abs hw ha hb hc
  have h3 := Nat.mul_le_mul h1 h1
  have h4 := Nat.mul_le_mul h2 h2
  unfold cN
  omega
theorem cQ_lt {oB : St} {n a b c : Nat} (hw : wB oB n) (ha : a < n) (hb : b < n) (hc : c < n) (hD : cD oB a b c ≠ 0) : cN oB a b c / (cDn oB a b c * cDn oB a b c) < 10000000000 := by
  have h1 := cN_le hw ha hb hc
  have h2 : 2 ≤ cDn oB a b c := by
    have := cD_ev oB a b c
    have := cDn_i oB a b c
    omega
  have h3 : 2 * 2 ≤ cDn oB a b c * cDn oB a b c := Nat.mul_le_mul h2 h2
  refine Nat.div_lt_of_lt_mul ?_
  have h4 : 4 * 10000000000 ≤ cDn oB a b c * cDn oB a b c * 10000000000 := Nat.mul_le_mul h3 (Nat.le_refl _)
  omega
def isC (oC oB : St) (a b c : Nat) : Prop := oC.1 1 = nI a ∧ oC.1 2 = nI b ∧ oC.1 3 = nI c ∧ bI (oC.1 4) (cD oB a b c) 3600 ∧ bI (oC.1 5) (cMX oB a b c) 216000 ∧ bI (oC.1 6) (cMY oB a b c) 216000
def isM (oM oB : St) (a b c : Nat) : Prop := bL (oM.2.1 30) (cD oB a b c) 3600 ∧ bL (oM.2.1 31) (cMX oB a b c) 216000 ∧ bL (oM.2.1 32) (cMY oB a b c) 216000
theorem bL.toN {x : Int64} {v : Int} {m k : Nat} (h : bL x v m) (e : v = (k : Int)) (hk : k < 2 ^ 63) : x = lN k := Int64.toInt_inj.mp (by rw [h.1, e, pf_lI hk])
theorem bI.toN {x : Int32} {v : Int} {m k : Nat} (h : bI x v m) (e : v = (k : Int)) (hk : k < 2 ^ 31) : x = nI k := Int32.toInt_inj.mp (by rw [h.1, e, nI_toInt hk])
set_option maxHeartbeats 4000000 in
theorem rad_c {oB oC : St} {n a b c : Nat} (hw : wB oB n) (ha : a < n) (hb : b < n) (hc : c < n) (hC : isC oC oB a b c) (hD : cD oB a b c ≠ 0) : f_X1_radius oC oB = some (nI (rS oB a b c)) := by
  have hn := hw.1
  obtain ⟨xa, ya, xa0, ya0⟩ := hw.x ha
  obtain ⟨e1, -, -, hd, hx, hy⟩ := hC
  have u := (hx.sub (hd.mul xa (by decide)) (by decide)).wide
  have v := (hy.sub (hd.mul ya (by decide)) (by decide)).wide
  have eu : cMX oB a b c - cD oB a b c * pX oB a = cU oB a b c := by unfold cMX; omega
  have ev : cMY oB a b c - cD oB a b c * pY oB a = cV oB a b c := by unfold cMY; omega
  rw [eu] at u
  rw [ev] at v
  have nn := (u.mul u (by decide)).add (v.mul v (by decide)) (by decide)
  have dd := hd.wide.mul hd.wide (by decide)
  have q := nn.div dd (by decide)
  unfold f_X1_radius
  rw [if_neg (by rw [hd.eqi b0]; exact hD), e1, ag_n (show a < 14 by omega) (by decide), ag_n (show a < 14 by omega) (by decide)]
  simp only [bn1_s]
  have hdd : ¬ (oC.1 4).toInt64 * (oC.1 4).toInt64 = 0 := by
    rw [dd.eqi l0]
    intro z
    rcases Int.mul_eq_zero.mp z with h | h <;> exact hD h
  rw [if_pos hdd]
  have hq := cQ_lt hw ha hb hc hD
  have e : (cU oB a b c * cU oB a b c + cV oB a b c * cV oB a b c).tdiv (cD oB a b c * cD oB a b c) = ((cN oB a b c / (cDn oB a b c * cDn oB a b c) : Nat) : Int) := by
    rw [← cN_i, ← cDn_i, ← Int.natCast_mul]
    exact (Int.ofNat_tdiv _ _).symm
  rw [q.toN e (by omega), root_c hq]
  rfl
set_option maxHeartbeats 4000000 in
theorem rad_L {oM : St} {v6 : Int64} {N D : Nat} (hv : v6 = lN N) (hD : bL (oM.2.1 30) (D : Int) 3600) (hN : N < 4000000000000) : ∀ (fuel i a b : Nat), i < fuel → b - a ≤ 2 ^ i → a < b → b ≤ 100000 → a * a * (D * D) ≤ N → N < b * b * (D * D) → ∃ q, f_X7_radius_L56 oM v6 fuel (lN a) (lN b) = some (nI q) ∧ q * q * (D * D) ≤ N ∧ N < (q + 1) * (q + 1) * (D * D)
  | 0, i, a, b, h, _, _, _, _, _ => by omega
  | fuel + 1, i, a, b, hf, hi, hab, hb, h1, h2 => by
    have hDD : D ≤ 3600 := by have := hD.2; omega
    have eD : oM.2.1 30 = lN D := hD.toN rfl (by omega)
    rw [f_X7_radius_L56_s, lN_sub (by omega)]
    by_cases h : b - a = 1
    · rw [if_pos (by rw [h]; decide), lN_i]
      have e : b = a + 1 := by omega
      exact ⟨a, rfl, h1, by rw [← e]; exact h2⟩
    · rw [if_neg (by rw [lg_cmp_le, Int64.le_iff_toInt_le, pf_lI (by omega)]; show ¬ ((b - a : Nat) : Int) ≤ 1; omega)]
      have eh : (lN a + lN b) / 2 = lN ((a + b) / 2) := by
        rw [lN_add]
        apply Int64.toInt_inj.mp
        have h9 : bL (lN (a + b)) ((a + b : Nat) : Int) 200000 := ⟨pf_lI (by omega), by omega⟩
        have := h9.div l2 (by decide)
        rw [this.1, pf_lI (by omega)]
        exact (Int.ofNat_tdiv _ 2).symm
      have hh : (a + b) / 2 ≤ 100000 := by omega
      obtain ⟨i', rfl⟩ : ∃ i', i = i' + 1 := by
        cases i with
        | zero => simp at hi; omega
        | succ i' => exact ⟨i', rfl⟩
      have e2 : 2 ^ (i' + 1) = 2 ^ i' + 2 ^ i' := by rw [Nat.pow_succ]; omega
      rw [e2] at hi
      have hb1 : (a + b) / 2 * ((a + b) / 2) ≤ 100000 * 100000 := Nat.mul_le_mul hh hh
      have hb2 : D * D ≤ 3600 * 3600 := Nat.mul_le_mul hDD hDD
      have hb3 : (a + b) / 2 * ((a + b) / 2) * (D * D) ≤ 100000 * 100000 * (3600 * 3600) := Nat.mul_le_mul hb1 hb2
      rw [eh, eD, lN_mul, lN_mul, lN_mul, Nat.mul_assoc ((a + b) / 2 * ((a + b) / 2)) D D, hv]
      have hc : 0 < lg_cmp (lN ((a + b) / 2 * ((a + b) / 2) * (D * D))) (lN N) ↔ N < (a + b) / 2 * ((a + b) / 2) * (D * D) := by
        rw [lg_cmp_gt, Int64.lt_iff_toInt_lt, pf_lI (by omega), pf_lI (by omega)]
        omega
      by_cases hq : N < (a + b) / 2 * ((a + b) / 2) * (D * D)
      · rw [if_pos (hc.mpr hq)]
        rw [← hv]
        exact rad_L hv hD hN fuel i' a ((a + b) / 2) (by omega) (by omega) (by omega) (by omega) h1 hq
      · rw [if_neg (fun z => hq (hc.mp z))]
        rw [← hv]
        exact rad_L hv hD hN fuel i' ((a + b) / 2) b (by omega) (by omega) (by omega) (by omega) (by omega) h2
set_option maxHeartbeats 4000000 in
theorem rad_m {oB oM : St} {n a b c : Nat} (hw : wB oB n) (hm : mB oM oB n) (ha : a < n) (hb : b < n) (hc : c < n) (hC : isM oM oB a b c) (hD : cD oB a b c ≠ 0) : f_X7_radius oM (nI a) = some (nI (rS oB a b c)) := by
  have hn := hw.1
  obtain ⟨xa, ya, xa0, ya0⟩ := hw.x ha
  obtain ⟨-, -, -, hxy, -⟩ := hm
  obtain ⟨hd, hx, hy⟩ := hC
  have u := hx.sub (xa.wide.mul hd (by decide)) (by decide)
  have v := hy.sub (ya.wide.mul hd (by decide)) (by decide)
  have eu : cMX oB a b c - pX oB a * cD oB a b c = cU oB a b c := by unfold cMX; rw [Int.mul_comm (pX oB a)]; omega
  have ev : cMY oB a b c - pY oB a * cD oB a b c = cV oB a b c := by unfold cMY; rw [Int.mul_comm (pY oB a)]; omega
  rw [eu] at u
  rw [ev] at v
  have nn := (u.mul u (by decide)).add (v.mul v (by decide)) (by decide)
  have hNle := cN_le hw ha hb hc
  unfold f_X7_radius
  simp only [ag_n (show a < 14 by omega) (by decide), bn1_s, (hxy a ha).1, (hxy a ha).2.1]
  have hq := cQ_lt hw ha hb hc hD
  have h2 : 2 ≤ cDn oB a b c := by
    have := cD_ev oB a b c
    have := cDn_i oB a b c
    omega
  have h3 : 0 < cDn oB a b c * cDn oB a b c := Nat.mul_pos (by omega) (by omega)
  obtain ⟨q, g1, g2, g3⟩ := rad_L (oM := oM) (N := cN oB a b c) (D := cDn oB a b c) (nn.toN (cN_i oB a b c).symm (by omega)) (by rw [cDn_i]; exact hd) (by omega) fu 17 0 100000 (by unfold fu; omega) (by decide) (by omega) (by omega) (by omega) (by
    have := (Nat.div_lt_iff_lt_mul h3).mp hq
    omega)
  have e0 : lN 100000 = 100000 := rfl
  rw [show (0 : Int64) = lN 0 from rfl, ← e0, g1]
  have k1 : q * q ≤ cN oB a b c / (cDn oB a b c * cDn oB a b c) := (Nat.le_div_iff_mul_le h3).mpr g2
  have k2 : cN oB a b c / (cDn oB a b c * cDn oB a b c) < (q + 1) * (q + 1) := (Nat.div_lt_iff_lt_mul h3).mpr g3
  have hq2 : q < 100000 := sq_lt (by omega)
  unfold rS
  rw [rt_one k1 k2 100000 (by omega)]
theorem rt_lek : ∀ k N, rt k N ≤ k
  | 0, _ => Nat.le_refl _
  | k + 1, N => by
    unfold rt
    have := rt_lek k N
    split <;> omega
theorem rt_le9 {oB : St} {n a b c : Nat} (_ : wB oB n) (_ : a < n) (_ : b < n) (_ : c < n) (_ : cD oB a b c ≠ 0) : rS oB a b c ≤ 100000 := rt_lek _ _
