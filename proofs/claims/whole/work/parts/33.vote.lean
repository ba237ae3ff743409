/-! division, rounded down -/
theorem tdiv_floor {v D : Int} (hD : 0 < D) (hv : v < 0) : (if (v.tdiv D) * D = v then v.tdiv D else v.tdiv D - 1) = v / D := by
  by_cases h : D ∣ v
  · rw [Int.tdiv_eq_ediv_of_dvd h, if_pos (Int.ediv_mul_cancel h)]
  · have e : v.tdiv D = v / D + 1 := by
      rw [Int.tdiv_eq_ediv, if_neg (by omega), Int.sign_eq_one_of_pos hD]
    rw [e, if_neg (fun q => h ⟨v / D + 1, by rw [Int.mul_comm]; exact q.symm⟩)]
    omega
theorem ediv_abs {v D : Int} {m : Nat} (hD : 0 < D) (hv : v.natAbs ≤ m) : (v / D).natAbs ≤ m := by
  have h1 : v / D ≤ m := by
    rcases Int.lt_or_le v 0 with h | h
    · have : v / D < 0 := Int.ediv_neg_of_neg_of_pos h hD
      omega
    · have : v / D ≤ v := Int.ediv_le_self _ h
      omega
  have h2 : -(m : Int) ≤ v / D := by
    refine Int.le_ediv_of_mul_le hD ?_
    have : -(m : Int) * D ≤ -(m : Int) * 1 := Int.mul_le_mul_of_nonpos_left (by omega) (by omega)
    omega
  omega
theorem tdiv_abs {v D : Int} {m : Nat} (hv : v.natAbs ≤ m) : (v.tdiv D).natAbs ≤ m := by
  rw [Int.natAbs_tdiv]
  exact Nat.le_trans (Nat.div_le_self _ _) hv
theorem bI.div {x y : Int32} {v w : Int} {m k : Nat} (h1 : bI x v m) (h2 : bI y w k) (h : m < 2147483648) : bI (x / y) (v.tdiv w) m := by
  refine ⟨?_, tdiv_abs h1.2⟩
  have h3 : (v.tdiv w).natAbs ≤ m := tdiv_abs h1.2
  rw [Int32.toInt_div, h1.1, h2.1]
  exact fb_bmod (by omega) (by omega)
theorem bL.div {x y : Int64} {v w : Int} {m k : Nat} (h1 : bL x v m) (h2 : bL y w k) (h : m < 9223372036854775808) : bL (x / y) (v.tdiv w) m := by
  refine ⟨?_, tdiv_abs h1.2⟩
  have h3 : (v.tdiv w).natAbs ≤ m := tdiv_abs h1.2
  rw [Int64.toInt_div, h1.1, h2.1]
  exact fb_bmodL (by omega) (by omega)
theorem xor_sign {x y : Int32} (hy : 0 < y.toInt) : 0 ≤ x ^^^ y ↔ 0 ≤ x.toInt := by
  have h1 : (x ^^^ y).toBitVec.msb = (x.toBitVec.msb ^^ y.toBitVec.msb) := by rw [Int32.toBitVec_xor, BitVec.msb_xor]
  rw [BitVec.msb_eq_toInt, BitVec.msb_eq_toInt, BitVec.msb_eq_toInt] at h1
  have h2 : decide (y.toBitVec.toInt < 0) = false := decide_eq_false (by have : y.toBitVec.toInt = y.toInt := rfl; omega)
  rw [h2, Bool.xor_false, decide_eq_decide] at h1
  have e1 : (x ^^^ y).toBitVec.toInt = (x ^^^ y).toInt := rfl
  have e2 : x.toBitVec.toInt = x.toInt := rfl
  rw [e1, e2] at h1
  rw [Int32.le_iff_toInt_le]
  show 0 ≤ _ ↔ _
  omega
theorem fl_c {x d : Int32} {v D : Int} {m k : Nat} (hx : bI x v m) (hd : bI d D k) (hD : 0 < D) (hm : m + k + m * k < 2147483648) : ∃ r, f_J9_floorDiv_7cf53 x d = some r ∧ bI r (v / D) m := by
  have h0 : ¬ d = 0 := by rw [hd.eqi b0]; omega
  have q := hx.div hd (by omega)
  unfold f_J9_floorDiv_7cf53
  rw [if_pos h0]
  have hs : 0 ≤ x ^^^ d ↔ 0 ≤ v := by rw [xor_sign (by rw [hd.1]; exact hD), hx.1]
  by_cases hv : 0 ≤ v
  · rw [if_pos (hs.mpr hv)]
    exact ⟨_, rfl, by rw [← Int.tdiv_eq_ediv_of_nonneg hv]; exact q⟩
  · rw [if_neg (fun z => hv (hs.mp z))]
    have hv : v < 0 := by omega
    have hmk : m * k < 2147483648 := by omega
    have e := tdiv_floor hD hv
    have hb := ediv_abs hD hx.2
    have hp := q.mul hd hmk
    have hc : x / d * d = x ↔ v.tdiv D * D = v := hp.eqi hx
    by_cases hq : v.tdiv D * D = v
    · rw [if_pos (hc.mpr hq)]
      rw [if_pos hq] at e
      exact ⟨_, rfl, by rw [← e]; exact q⟩
    · rw [if_neg (fun z => hq (hc.mp z))]
      rw [if_neg hq] at e
      have h9 := q.sub b1 (by have := hd.2; omega)
      exact ⟨_, rfl, by rw [← e]; exact h9.1, hb⟩
theorem fl_m {x d : Int64} {v D : Int} {m k : Nat} (hx : bL x v m) (hd : bL d D k) (hD : 0 < D) (hm : m + k + m * k < 2147483648) : ∃ r, f_X7_floor x d = some r ∧ bI r (v / D) m := by
  have h0 : ¬ d = 0 := by rw [hd.eqi l0]; omega
  have q := hx.div hd (by omega)
  have hb := ediv_abs hD hx.2
  have hmk : m * k < 2147483648 := by omega
  have hp := q.mul hd (by omega)
  unfold f_X7_floor
  rw [if_pos h0]
  simp only [lg_cmp_le]
  have hc : x / d * d ≤ x ↔ v.tdiv D * D ≤ v := hp.le hx
  by_cases hv : 0 ≤ v
  · have e := Int.tdiv_eq_ediv_of_nonneg (b := D) hv
    rw [if_pos (hc.mpr (by rw [e]; exact Int.ediv_mul_le _ (by omega)))]
    exact ⟨_, rfl, by rw [← e]; exact q.narrow (by omega)⟩
  · have hv : v < 0 := by omega
    have e := tdiv_floor hD hv
    by_cases hq : v.tdiv D * D = v
    · rw [if_pos (hc.mpr (by omega))]
      rw [if_pos hq] at e
      exact ⟨_, rfl, by rw [← e]; exact q.narrow (by omega)⟩
    · rw [if_neg hq] at e
      have hle : v < v.tdiv D * D := by
        have h1 : v.tdiv D = v / D + 1 := by omega
        rw [h1]
        have := Int.lt_ediv_add_one_mul_self v hD
        exact this
      rw [if_neg (fun z => absurd (hc.mp z) (by omega))]
      have h9 := q.sub l1 (by omega)
      rw [e] at h9
      have h9 : bL (x / d - 1) (v / D) m := ⟨h9.1, hb⟩
      exact ⟨_, rfl, h9.narrow (by omega)⟩
/-! agreeing -/
def agS (oB : St) (j : Nat) (x y s : Int) : Bool :=
  decide ((oB.2.2 10 j).toInt = -1) || (decide (0 < (x - s * pX oB j) * (z_tX (oB.2.2 10 j).toNatClampNeg).toInt + (y - s * pY oB j) * (z_tY (oB.2.2 10 j).toNatClampNeg).toInt)
    && decide ((x - s * pX oB j) * (z_tY (oB.2.2 10 j).toNatClampNeg).toInt - (y - s * pY oB j) * (z_tX (oB.2.2 10 j).toNatClampNeg).toInt ≤ (x - s * pX oB j) * (z_tX (oB.2.2 10 j).toNatClampNeg).toInt + (y - s * pY oB j) * (z_tY (oB.2.2 10 j).toNatClampNeg).toInt)
    && decide (-((x - s * pX oB j) * (z_tY (oB.2.2 10 j).toNatClampNeg).toInt - (y - s * pY oB j) * (z_tX (oB.2.2 10 j).toNatClampNeg).toInt) ≤ (x - s * pX oB j) * (z_tX (oB.2.2 10 j).toNatClampNeg).toInt + (y - s * pY oB j) * (z_tY (oB.2.2 10 j).toNatClampNeg).toInt))
theorem zt_b : ∀ k, k < 8 → (z_tX k).toInt.natAbs ≤ 1 ∧ (z_tY k).toInt.natAbs ≤ 1 := by decide +kernel
theorem zt_m : ∀ k, k < 8 → f_X7_turnX (nI k) = some (z_tX k) ∧ f_X7_turnY (nI k) = some (z_tY k) ∧ ag 8 z_tX (nI k) = some (z_tX k) ∧ ag 8 z_tY (nI k) = some (z_tY k) := by decide +kernel
theorem turn_k {oB : St} {n j : Nat} (hw : wB oB n) (hj : j < n) : oB.2.2 10 j = -1 ∨ ∃ k, k < 8 ∧ oB.2.2 10 j = nI k := by
  obtain ⟨h1, h2, h3, h4, -, -, -, -, -, h5, -⟩ := hw
  have := h5 j hj
  by_cases h : (oB.2.2 10 j).toInt = -1
  · left
    exact Int32.toInt_inj.mp (h.trans rfl)
  · right
    refine ⟨(oB.2.2 10 j).toInt.toNat, by omega, ?_⟩
    apply Int32.toInt_inj.mp
    rw [nI_toInt (by omega)]
    omega
set_option maxHeartbeats 4000000 in
theorem ag_c {oB : St} {n j : Nat} (hw : wB oB n) (hj : j < n) {x y s : Int32} {X Y S : Int} (hx : bI x X 216000) (hy : bI y Y 216000) (hs : bI s S 3600) : f_X0_agrees oB (nI j) x y s = some (if agS oB j X Y S then 1 else 0) := by
  have hn := hw.1
  obtain ⟨xa, ya, xa0, ya0⟩ := hw.x hj
  unfold f_X0_agrees
  rw [ag_n (show j < 14 by omega) (by decide), bn1_s]
  rcases turn_k hw hj with h | ⟨k, hk, h⟩
  · have e : agS oB j X Y S = true := by unfold agS; rw [h]; rfl
    rw [h, if_pos (by decide), e]
    rfl
  · have e0 : (oB.2.2 10 j).toNatClampNeg = k := by rw [h]; exact nI_clamp (by omega)
    have e1 : (oB.2.2 10 j).toInt = k := by rw [h]; exact nI_toInt (by omega)
    obtain ⟨-, -, zx, zy⟩ := zt_m k hk
    obtain ⟨bx, by'⟩ := zt_b k hk
    have tx := bI.of (z_tX k) bx
    have ty := bI.of (z_tY k) by'
    have u := hx.sub (hs.mul xa (by decide)) (by decide)
    have v := hy.sub (hs.mul ya (by decide)) (by decide)
    have al := (u.mul tx (by decide)).add (v.mul ty (by decide)) (by decide)
    have as := (u.mul ty (by decide)).sub (v.mul tx (by decide)) (by decide)
    have an := as.neg (by decide)
    rw [if_neg (by rw [h]; exact nI_pos (by omega)), if_pos (by rw [h]; exact nI_lt (b := 8) (by omega) (by decide))]
    rw [h, zx, zy]
    simp only [ag_n (show j < 14 by omega) (by decide), bn1_s]
    simp only [al.le b0, al.lt as, al.lt an]
    unfold agS
    rw [e0, e1]
    have e2 : decide ((k : Int) = -1) = false := decide_eq_false (by omega)
    rw [e2, Bool.false_or]
    generalize (X - S * pX oB j) * (z_tX k).toInt + (Y - S * pY oB j) * (z_tY k).toInt = A
    generalize (X - S * pX oB j) * (z_tY k).toInt - (Y - S * pY oB j) * (z_tX k).toInt = B
    by_cases h1 : A ≤ 0
    · rw [if_pos h1, decide_eq_false (by omega)]; rfl
    · rw [if_neg h1, decide_eq_true (by omega)]
      by_cases h2 : A < B
      · rw [if_pos h2, decide_eq_false (show ¬ B ≤ A by omega)]; rfl
      · rw [if_neg h2, decide_eq_true (show B ≤ A by omega)]
        by_cases h3 : A < -B
        · rw [if_pos h3, decide_eq_false (show ¬ -B ≤ A by omega)]; rfl
        · rw [if_neg h3, decide_eq_true (show -B ≤ A by omega)]; rfl
set_option maxHeartbeats 4000000 in
theorem ag_m {oB oM : St} {n j : Nat} (hw : wB oB n) (hm : mB oM oB n) (hj : j < n) {x y s : Int64} {X Y S : Int} (hx : bL x X 216000) (hy : bL y Y 216000) (hs : bL s S 3600) : f_X7_agrees oM x y s (nI j) = some (if agS oB j X Y S then 1 else 0) := by
  have hn := hw.1
  obtain ⟨xa, ya, xa0, ya0⟩ := hw.x hj
  obtain ⟨-, -, -, hxy, -⟩ := hm
  unfold f_X7_agrees
  simp only [ag_n (show j < 14 by omega) (by decide), bn1_s, (hxy j hj).1, (hxy j hj).2.1, (hxy j hj).2.2]
  rcases turn_k hw hj with h | ⟨k, hk, h⟩
  · have e : agS oB j X Y S = true := by unfold agS; rw [h]; rfl
    rw [h, if_pos rfl, e]
    rfl
  · have e0 : (oB.2.2 10 j).toNatClampNeg = k := by rw [h]; exact nI_clamp (by omega)
    have e1 : (oB.2.2 10 j).toInt = k := by rw [h]; exact nI_toInt (by omega)
    obtain ⟨zx, zy, -, -⟩ := zt_m k hk
    obtain ⟨bx, by'⟩ := zt_b k hk
    have tx := (bI.of (z_tX k) bx).wide
    have ty := (bI.of (z_tY k) by').wide
    have u := hx.sub (xa.wide.mul hs (by decide)) (by decide)
    have v := hy.sub (ya.wide.mul hs (by decide)) (by decide)
    have al := (u.mul tx (by decide)).add (v.mul ty (by decide)) (by decide)
    have as := (u.mul ty (by decide)).sub (v.mul tx (by decide)) (by decide)
    have an := as.neg (by decide)
    rw [h, if_neg (by rw [← Int32.toInt_inj, nI_toInt (by omega)]; show ¬ (k : Int) = -1; omega), zx, zy]
    simp only [bn1_s, lg_cmp_le, lg_cmp_gt]
    simp only [al.le l0, al.lt as, al.lt an]
    unfold agS
    rw [e0, e1, Int.mul_comm S, Int.mul_comm S]
    have e2 : decide ((k : Int) = -1) = false := decide_eq_false (by omega)
    rw [e2, Bool.false_or]
    generalize (X - pX oB j * S) * (z_tX k).toInt + (Y - pY oB j * S) * (z_tY k).toInt = A
    generalize (X - pX oB j * S) * (z_tY k).toInt - (Y - pY oB j * S) * (z_tX k).toInt = B
    by_cases h1 : A ≤ 0
    · rw [if_pos h1, decide_eq_false (by omega)]; rfl
    · rw [if_neg h1, decide_eq_true (by omega)]
      by_cases h2 : A < B
      · rw [if_pos h2, decide_eq_false (show ¬ B ≤ A by omega)]; rfl
      · rw [if_neg h2, decide_eq_true (show B ≤ A by omega)]
        by_cases h3 : A < -B
        · rw [if_pos h3, decide_eq_false (show ¬ -B ≤ A by omega)]; rfl
        · rw [if_neg h3, decide_eq_true (show -B ≤ A by omega)]; rfl
/-! the root, rounded down -/
def rt : Nat → Nat → Nat
  | 0, _ => 0
  | k + 1, N => if (k + 1) * (k + 1) ≤ N then k + 1 else rt k N
theorem rt_le : ∀ k N, rt k N * rt k N ≤ N
  | 0, _ => Nat.zero_le _
  | k + 1, N => by
    unfold rt
    by_cases h : (k + 1) * (k + 1) ≤ N
    · rw [if_pos h]; exact h
    · rw [if_neg h]; exact rt_le k N
theorem rt_one {N r : Nat} (h1 : r * r ≤ N) (h2 : N < (r + 1) * (r + 1)) : ∀ k, r ≤ k → rt k N = r
  | 0, h => by unfold rt; omega
  | k + 1, h => by
    unfold rt
    by_cases hk : r = k + 1
    · rw [if_pos (by rw [← hk]; exact h1), hk]
    · have h3 : (r + 1) * (r + 1) ≤ (k + 1) * (k + 1) := Nat.mul_le_mul (by omega) (by omega)
      rw [if_neg (by omega)]
      exact rt_one h1 h2 k (by omega)
