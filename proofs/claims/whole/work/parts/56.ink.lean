/-! a sheet as its text -/
def sgS (v : Int32) : Int32 := if 10 ≤ v then (97 + v) - 10 else 48 + v
def tnS (v : Int32) : Int32 := if v = -1 then 45 else 48 + v
def sdL (v : Int32) : List Int32 := if v ≤ 9 then [48 + (v - v / 10 * 10)] else [48 + v / 10, 48 + (v - v / 10 * 10)]
def dtL (oB : St) : Nat → List Int32
  | 0 => []
  | n + 1 => dtL oB n ++ [sgS (oB.2.2 8 n), sgS (oB.2.2 9 n), tnS (oB.2.2 10 n)]
theorem dtL_len (oB : St) : ∀ n, (dtL oB n).length = 3 * n
  | 0 => rfl
  | n + 1 => by
    show (dtL oB n ++ [sgS (oB.2.2 8 n), sgS (oB.2.2 9 n), tnS (oB.2.2 10 n)]).length = _
    rw [List.length_append, dtL_len oB n]
    show 3 * n + 3 = _
    omega
def dlS (oB : St) (q : Nat) : Int32 := if q % 3 = 0 then sgS (oB.2.2 8 (q / 3)) else if q % 3 = 1 then sgS (oB.2.2 9 (q / 3)) else tnS (oB.2.2 10 (q / 3))
def gD (l : List Int32) (p : Nat) : Int32 := l.getD p (-1)
theorem gD_l {l m : List Int32} {p : Nat} (h : p < l.length) : gD (l ++ m) p = gD l p := by
  unfold gD
  rw [List.getD_eq_getElem?_getD, List.getD_eq_getElem?_getD, List.getElem?_append_left h]
theorem gD_r {l m : List Int32} {p : Nat} (h : l.length ≤ p) : gD (l ++ m) p = gD m (p - l.length) := by
  unfold gD
  rw [List.getD_eq_getElem?_getD, List.getD_eq_getElem?_getD, List.getElem?_append_right h]
theorem gD_out {l : List Int32} {p : Nat} (h : l.length ≤ p) : gD l p = -1 := by
  unfold gD
  rw [List.getD_eq_getElem?_getD, List.getElem?_eq_none h]
  rfl
theorem gD_snoc (l : List Int32) (c : Int32) (p : Nat) : gD (l ++ [c]) p = if p = l.length then c else gD l p := by
  rcases Nat.lt_trichotomy p l.length with h | h | h
  · rw [gD_l h, if_neg (by omega)]
  · rw [gD_r (by omega), if_pos h, h, Nat.sub_self]; rfl
  · rw [gD_r (by omega), if_neg (by omega), gD_out (l := l) (by omega)]
    exact gD_out (by show 1 ≤ _; omega)
theorem dtL_at (oB : St) : ∀ n q, gD (dtL oB n) q = if q < 3 * n then dlS oB q else -1
  | 0, q => by rw [if_neg (by omega)]; exact gD_out (Nat.zero_le _)
  | n + 1, q => by
    show gD (dtL oB n ++ [sgS (oB.2.2 8 n), sgS (oB.2.2 9 n), tnS (oB.2.2 10 n)]) q = _
    have hl := dtL_len oB n
    rcases Nat.lt_or_ge q (3 * n) with h | h
    · rw [gD_l (by omega), dtL_at oB n q, if_pos h, if_pos (by omega)]
    · rw [gD_r (by omega), hl]
      by_cases h2 : q < 3 * (n + 1)
      · rw [if_pos h2]
        unfold dlS
        have hq : q / 3 = n := by omega
        rw [hq]
        have h3 : q = 3 * n ∨ q = 3 * n + 1 ∨ q = 3 * n + 2 := by omega
        rcases h3 with e | e | e
        · rw [if_pos (by omega), e, Nat.sub_self]; rfl
        · rw [if_neg (by omega), if_pos (by omega), e, show 3 * n + 1 - 3 * n = 1 by omega]; rfl
        · rw [if_neg (by omega), if_neg (by omega), e, show 3 * n + 2 - 3 * n = 2 by omega]; rfl
      · rw [if_neg h2]
        exact gD_out (by show 3 ≤ _; omega)
/-! the reference writes it letter by letter -/
def inkI (oM0 oM : St) (p : Nat) (l : List Int32) : Prop := kM oM0 oM ∧ oM.1 26 = nI p ∧ oM.1 27 = nI l.length ∧ oM.1 28 = gD l p
theorem one_m {oM0 oM : St} {p : Nat} {l : List Int32} (hp : p < 2 ^ 31) (hl : l.length < 1000) (h : inkI oM0 oM p l) (c : Int32) : ∃ oM', f_X7_inkOne oM c = some oM' ∧ inkI oM0 oM' p (l ++ [c]) := by
  obtain ⟨h1, h2, h3, h4⟩ := h
  unfold f_X7_inkOne
  have e : oM.1 27 = oM.1 26 ↔ p = l.length := by
    rw [h2, h3, nI_eq (by omega) hp]
    exact eq_comm
  by_cases c1 : p = l.length
  · rw [if_pos (e.mpr c1)]
    refine ⟨_, rfl, (h1.i _ (by omega)).i _ (by omega), h2, ?_, ?_⟩
    · show oM.1 27 + 1 = _
      rw [h3, nI_1, List.length_append]; rfl
    · rw [gD_snoc, if_pos c1]; rfl
  · rw [if_neg (fun z => c1 (e.mp z))]
    refine ⟨_, rfl, (h1.i _ (by omega)).i _ (by omega), h2, ?_, ?_⟩
    · show oM.1 27 + 1 = _
      rw [h3, nI_1, List.length_append]; rfl
    · rw [gD_snoc, if_neg c1]; exact h4
theorem side_m {oM0 oM : St} {p : Nat} {l : List Int32} (hp : p < 2 ^ 31) (hl : l.length < 900) (h : inkI oM0 oM p l) (v : Int32) : ∃ oM', f_X7_inkSide oM v = some oM' ∧ inkI oM0 oM' p (l ++ sdL v) := by
  unfold f_X7_inkSide sdL
  by_cases c : v ≤ 9
  · rw [if_pos c, if_pos c]
    obtain ⟨oM1, g1, g2⟩ := one_m hp (by omega) h (48 + (v - v / 10 * 10))
    rw [g1]
    exact ⟨_, rfl, g2⟩
  · rw [if_neg c, if_neg c]
    obtain ⟨oM1, g1, g2⟩ := one_m hp (by omega) h (48 + v / 10)
    obtain ⟨oM2, k1, k2⟩ := one_m hp (by rw [List.length_append]; show l.length + 1 < _; omega) g2 (48 + (v - v / 10 * 10))
    rw [g1, bn1_s, k1]
    refine ⟨_, rfl, ?_⟩
    rw [List.append_assoc] at k2
    exact k2
theorem code_m (v : Int32) : f_X7_codeOf v = some (sgS v) := by
  unfold f_X7_codeOf sgS
  split <;> rfl
theorem sdL_len (v : Int32) : (sdL v).length ≤ 2 := by
  unfold sdL
  split
  · exact Nat.le_of_ble_eq_true rfl
  · exact Nat.le_of_ble_eq_true rfl
def txL (oB : St) (n : Nat) : List Int32 := sdL (oB.1 0) ++ [120] ++ sdL (oB.1 1) ++ [58] ++ dtL oB n
set_option maxHeartbeats 4000000 in
theorem ink_m {oM oB : St} {n p : Nat} (hw : wB oB n) (hm : mB oM oB n) (hp : p < 2 ^ 31) : ∃ oM', f_X7_inkNow oM (nI p) = some (gD (txL oB n) p, oM') ∧ kM oM oM' := by
  have hn := hw.1
  unfold f_X7_inkNow
  have i0 : inkI oM (sI (sI (sI oM 26 (nI p)) 27 0) 28 (-1)) p [] := ⟨(((kM.rf oM).i _ (by omega)).i _ (by omega)).i _ (by omega), rfl, rfl, (gD_out (Nat.zero_le _)).symm⟩
  obtain ⟨oM1, g1, i1⟩ := side_m hp (by decide) i0 (oM.1 2)
  have l0 := sdL_len (oB.1 0)
  have l1 := sdL_len (oB.1 1)
  rw [g1, bn1_s]
  rw [List.nil_append, hm.1] at i1
  obtain ⟨oM2, g2, i2⟩ := one_m hp (by omega) i1 120
  rw [g2, bn1_s, show oM2.1 3 = oB.1 1 by rw [(i2.1 3 (by omega)).1, hm.2.1]]
  obtain ⟨oM3, g3, i3⟩ := side_m hp (by rw [List.length_append]; show _ + 1 < _; omega) i2 (oB.1 1)
  rw [g3, bn1_s]
  obtain ⟨oM4, g4, i4⟩ := one_m hp (by rw [List.length_append, List.length_append]; show _ + 1 + _ < _; omega) i3 58
  rw [g4, bn1_s]
  obtain ⟨s, h1, h2⟩ := lpn (fun fuel k (s : St) => f_X7_inkNow_L45 fuel (nI k) s) (fun s => some (s.1 28, s)) n (fun k s => inkI oM s p (sdL (oB.1 0) ++ [120] ++ sdL (oB.1 1) ++ [58] ++ dtL oB k)) (by
    intro fuel k s hk hs
    have hms := hm.k hs.1
    obtain ⟨-, -, h5, hxy, -⟩ := hms
    obtain ⟨x1, x2, x3⟩ := hxy k hk
    have hln : (sdL (oB.1 0) ++ [120] ++ sdL (oB.1 1) ++ [58] ++ dtL oB k).length < 100 := by
      rw [List.length_append, List.length_append, List.length_append, List.length_append, dtL_len]
      show _ + 1 + _ + 1 + _ < _
      omega
    obtain ⟨s1, a1, b1'⟩ := one_m hp (by omega) hs (sgS (oB.2.2 8 k))
    obtain ⟨s2, a2, b2'⟩ := one_m hp (by rw [List.length_append]; show _ + 1 < _; omega) b1' (sgS (oB.2.2 9 k))
    obtain ⟨s3, a3, b3'⟩ := one_m hp (by rw [List.length_append, List.length_append]; show _ + 1 + 1 < _; omega) b2' (tnS (oB.2.2 10 k))
    have y2 : s1.2.2 7 k = oB.2.2 9 k := by rw [((b1'.1) 7 (by omega)).2]; exact (hm.2.2.2.1 k hk).2.1
    have y3 : s2.2.2 8 k = oB.2.2 10 k := by rw [((b2'.1) 8 (by omega)).2]; exact (hm.2.2.2.1 k hk).2.2
    refine ⟨s3, ?_, ?_⟩
    · show f_X7_inkNow_L45 (fuel + 1) (nI k) s = f_X7_inkNow_L45 fuel (nI (k + 1)) s3
      rw [f_X7_inkNow_L45_s, h5, if_neg (nI_ge hk (by omega)), ag_n (show k < 14 by omega) (by decide), bn1_s, x1, code_m, bn1_s, a1, bn1_s, ag_n (show k < 14 by omega) (by decide), bn1_s, y2, code_m, bn1_s, a2, bn1_s, ag_n (show k < 14 by omega) (by decide), bn1_s, bn1_s, y3, nI_1]
      unfold tnS at a3
      by_cases c : oB.2.2 10 k = -1
      · rw [if_pos c] at a3 ⊢
        rw [a3, bn1_s]
      · rw [if_neg c] at a3 ⊢
        rw [a3, bn1_s]
    · rw [List.append_assoc, List.append_assoc] at b3'
      show inkI oM s3 p (sdL (oB.1 0) ++ [120] ++ sdL (oB.1 1) ++ [58] ++ (dtL oB k ++ [sgS (oB.2.2 8 k), sgS (oB.2.2 9 k), tnS (oB.2.2 10 k)]))
      rw [← List.append_assoc]
      exact b3') (by
    intro fuel s hs
    show f_X7_inkNow_L45 (fuel + 1) (nI n) s = _
    rw [f_X7_inkNow_L45_s, (hm.k hs.1).2.2.1, if_pos (nI_le (Nat.le_refl _) (by omega))]) fu 0 oM4 (by omega) (by unfold fu; omega) (by
      show inkI oM oM4 p (sdL (oB.1 0) ++ [120] ++ sdL (oB.1 1) ++ [58] ++ [])
      rw [List.append_nil]
      exact i4)
  refine ⟨s, ?_, h2.1⟩
  have h1 : f_X7_inkNow_L45 fu 0 oM4 = some (s.1 28, s) := h1
  rw [h1, h2.2.2.2]
  rfl
/-! the class finds the place -/
theorem sign_c (v : Int32) : f_X0_signOf v = some (sgS v) := by
  unfold f_X0_signOf sgS
  split <;> rfl
theorem dotl_c {oB : St} {n q : Nat} (hw : wB oB n) (hq : q < 2 ^ 31) : f_X0_dotLetter oB (nI q) = some (gD (dtL oB n) q) := by
  have hn := hw.1
  have hd : nI q / 3 = nI (q / 3) := nI_div (b := 3) hq (by decide)
  have hmd : nI q - nI (q / 3) * 3 = nI (q % 3) := by
    rw [show (3 : Int32) = nI 3 from rfl, nI_mul, nI_sub (by omega)]
    congr 1
    omega
  unfold f_X0_dotLetter
  rw [hd, hmd, has_c hn hw.2.1, bn1_s, dtL_at]
  by_cases c : q / 3 < n
  · rw [isJ_nI c (by omega), if_neg (by decide), if_pos (show q < 3 * n by omega)]
    rw [ag_n (show q / 3 < 14 by omega) (by decide), ag_n (show q / 3 < 14 by omega) (by decide), ag_n (show q / 3 < 14 by omega) (by decide), bn1_s, bn1_s, bn1_s, sign_c, bn1_s, sign_c, bn1_s, bn1_s]
    unfold dlS tnS
    have e0 : nI (q % 3) = 0 ↔ q % 3 = 0 := nI_eq (b := 0) (by omega) (by omega)
    have e1 : nI (q % 3) = 1 ↔ q % 3 = 1 := nI_eq (b := 1) (by omega) (by omega)
    by_cases c0 : q % 3 = 0
    · rw [if_pos (e0.mpr c0), if_pos c0]
    · rw [if_neg (fun z => c0 (e0.mp z)), if_neg c0]
      by_cases c1 : q % 3 = 1
      · rw [if_pos (e1.mpr c1), if_pos c1]
      · rw [if_neg (fun z => c1 (e1.mp z)), if_neg c1]
        split <;> rfl
  · have e : isJ n (nI (q / 3)) = false := by
      unfold isJ
      rw [nI_toInt (by omega), decide_eq_false (show ¬ ((q / 3 : Nat) : Int) < (n : Int) by omega), Bool.and_false]
    rw [e, if_neg (show ¬ q < 3 * n by omega)]
    rfl
theorem tail_c {oB : St} {n p k : Nat} {pre : List Int32} (hw : wB oB n) (hp : p < 2 ^ 31) (hpre : pre.length = k + 1) (h : k < p) (K : Int32) (hK : K = nI k) : (bn1 (f_X0_dotLetter oB ((nI p - K) - 1)) fun x7 => some x7) = some (gD (pre ++ dtL oB n) p) := by
  rw [hK, nI_sub (by omega), show p - k = (p - k - 1) + 1 by omega, nI_s1, dotl_c hw (by omega), bn1_s, gD_r (by omega), hpre]
  congr 2
theorem digit_0 (v : Int32) : f_X0_digitAt v 0 = some (48 + (v - v / 10 * 10)) := by unfold f_X0_digitAt; rw [if_pos rfl]
theorem digit_1 (v : Int32) : f_X0_digitAt v 1 = some (48 + v / 10) := by unfold f_X0_digitAt; rw [if_neg (by decide)]
theorem le9 {v : Int32} : v ≤ 9 ↔ ¬ 10 ≤ v := by
  rw [Int32.le_iff_toInt_le, Int32.le_iff_toInt_le]
  show v.toInt ≤ 9 ↔ ¬ 10 ≤ v.toInt
  omega
set_option maxHeartbeats 8000000 in
theorem text_c {oB : St} {n p : Nat} (hw : wB oB n) (hp : p < 2 ^ 31) : f_X0_textAt oB (nI p) = some (gD (txL oB n) p) := by
  unfold f_X0_textAt txL sdL
  simp only [le9]
  by_cases c0 : 10 ≤ oB.1 0
  · rw [if_pos c0, if_neg (show ¬ ¬ 10 ≤ oB.1 0 from fun z => z c0)]
    by_cases c1 : 10 ≤ oB.1 1
    · rw [if_pos c1, if_neg (show ¬ ¬ 10 ≤ oB.1 1 from fun z => z c1)]
      match p, hp with
      | 0, _ => rw [if_neg (by decide), show (2 - 1 : Int32) - nI 0 = 1 by decide, digit_1]; rfl
      | 1, _ => rw [if_neg (by decide), show (2 - 1 : Int32) - nI 1 = 0 by decide, digit_0]; rfl
      | 2, _ => rw [if_pos (by decide), if_pos (by decide)]; rfl
      | 3, _ => rw [if_pos (by decide), if_neg (by decide), if_neg (by decide), show ((2 + 3 : Int32) - 1) - nI 3 = 1 by decide, digit_1]; rfl
      | 4, _ => rw [if_pos (by decide), if_neg (by decide), if_neg (by decide), show ((2 + 3 : Int32) - 1) - nI 4 = 0 by decide, digit_0]; rfl
      | 5, _ => rw [if_pos (by decide), if_neg (by decide), if_pos (by decide), if_pos (by decide)]; rfl
      | p + 6, hp =>
        have e1 : (2 : Int32) ≤ nI (p + 6) := nI_le (a := 2) (by omega) hp
        have e2 : ¬ nI (p + 6) = (2 : Int32) := fun z => by have := (nI_eq (b := 2) hp (by omega)).mp z; omega
        have e3 : (2 + 3 : Int32) ≤ nI (p + 6) := nI_le (a := 5) (by omega) hp
        have e4 : ¬ nI (p + 6) = (2 + 3 : Int32) := fun z => by have := (nI_eq (b := 5) hp (by omega)).mp z; omega
        rw [if_pos e1, if_neg e2, if_pos e3, if_neg e4]
        exact tail_c (k := 5) hw hp rfl (by omega) _ rfl
    · rw [if_neg c1, if_pos c1]
      match p, hp with
      | 0, _ => rw [if_neg (by decide), show (2 - 1 : Int32) - nI 0 = 1 by decide, digit_1]; rfl
      | 1, _ => rw [if_neg (by decide), show (2 - 1 : Int32) - nI 1 = 0 by decide, digit_0]; rfl
      | 2, _ => rw [if_pos (by decide), if_pos (by decide)]; rfl
      | 3, _ => rw [if_pos (by decide), if_neg (by decide), if_neg (by decide), show ((2 + 2 : Int32) - 1) - nI 3 = 0 by decide, digit_0]; rfl
      | 4, _ => rw [if_pos (by decide), if_neg (by decide), if_pos (by decide), if_pos (by decide)]; rfl
      | p + 5, hp =>
        have e1 : (2 : Int32) ≤ nI (p + 5) := nI_le (a := 2) (by omega) hp
        have e2 : ¬ nI (p + 5) = (2 : Int32) := fun z => by have := (nI_eq (b := 2) hp (by omega)).mp z; omega
        have e3 : (2 + 2 : Int32) ≤ nI (p + 5) := nI_le (a := 4) (by omega) hp
        have e4 : ¬ nI (p + 5) = (2 + 2 : Int32) := fun z => by have := (nI_eq (b := 4) hp (by omega)).mp z; omega
        rw [if_pos e1, if_neg e2, if_pos e3, if_neg e4]
        exact tail_c (k := 4) hw hp rfl (by omega) _ rfl
  · rw [if_neg c0, if_pos c0]
    by_cases c1 : 10 ≤ oB.1 1
    · rw [if_pos c1, if_neg (show ¬ ¬ 10 ≤ oB.1 1 from fun z => z c1)]
      match p, hp with
      | 0, _ => rw [if_neg (by decide), show (1 - 1 : Int32) - nI 0 = 0 by decide, digit_0]; rfl
      | 1, _ => rw [if_pos (by decide), if_pos (by decide)]; rfl
      | 2, _ => rw [if_pos (by decide), if_neg (by decide), if_neg (by decide), show ((1 + 3 : Int32) - 1) - nI 2 = 1 by decide, digit_1]; rfl
      | 3, _ => rw [if_pos (by decide), if_neg (by decide), if_neg (by decide), show ((1 + 3 : Int32) - 1) - nI 3 = 0 by decide, digit_0]; rfl
      | 4, _ => rw [if_pos (by decide), if_neg (by decide), if_pos (by decide), if_pos (by decide)]; rfl
      | p + 5, hp =>
        have e1 : (1 : Int32) ≤ nI (p + 5) := nI_le (a := 1) (by omega) hp
        have e2 : ¬ nI (p + 5) = (1 : Int32) := fun z => by have := (nI_eq (b := 1) hp (by omega)).mp z; omega
        have e3 : (1 + 3 : Int32) ≤ nI (p + 5) := nI_le (a := 4) (by omega) hp
        have e4 : ¬ nI (p + 5) = (1 + 3 : Int32) := fun z => by have := (nI_eq (b := 4) hp (by omega)).mp z; omega
        rw [if_pos e1, if_neg e2, if_pos e3, if_neg e4]
        exact tail_c (k := 4) hw hp rfl (by omega) _ rfl
    · rw [if_neg c1, if_pos c1]
      match p, hp with
      | 0, _ => rw [if_neg (by decide), show (1 - 1 : Int32) - nI 0 = 0 by decide, digit_0]; rfl
      | 1, _ => rw [if_pos (by decide), if_pos (by decide)]; rfl
      | 2, _ => rw [if_pos (by decide), if_neg (by decide), if_neg (by decide), show ((1 + 2 : Int32) - 1) - nI 2 = 0 by decide, digit_0]; rfl
      | 3, _ => rw [if_pos (by decide), if_neg (by decide), if_pos (by decide), if_pos (by decide)]; rfl
      | p + 4, hp =>
        have e1 : (1 : Int32) ≤ nI (p + 4) := nI_le (a := 1) (by omega) hp
        have e2 : ¬ nI (p + 4) = (1 : Int32) := fun z => by have := (nI_eq (b := 1) hp (by omega)).mp z; omega
        have e3 : (1 + 2 : Int32) ≤ nI (p + 4) := nI_le (a := 3) (by omega) hp
        have e4 : ¬ nI (p + 4) = (1 + 2 : Int32) := fun z => by have := (nI_eq (b := 3) hp (by omega)).mp z; omega
        rw [if_pos e1, if_neg e2, if_pos e3, if_neg e4]
        exact tail_c (k := 3) hw hp rfl (by omega) _ rfl
theorem op_ink {oX oP oR oT oB oM : St} (h : REL oX oP oR oT oB oM) (v1 : Int32) : ∃ r oM', f_X6_ink oB v1 = some r ∧ f_X7_ink oM v1 = some (r, oM') ∧ kM oM oM' := by
  obtain ⟨n, hw, hm, -⟩ := h
  unfold f_X6_ink f_X7_ink
  rw [isThere_c, bn1_s, ite01, isSheet_m hm, bn1_s, ite01]
  by_cases hW : (oB.1 0).toInt ≤ 0
  · rw [if_pos hW, if_pos hW]; exact ⟨_, _, rfl, rfl, kM.rf _⟩
  · rw [if_neg hW, if_neg hW]
    have e : 0 ≤ v1 ↔ 0 ≤ v1.toInt := by rw [Int32.le_iff_toInt_le]; rfl
    by_cases c : 0 ≤ v1.toInt
    · obtain ⟨p, hp, rfl⟩ := nI_of (x := v1) (by rw [Int32.lt_iff_toInt_lt]; show ¬ v1.toInt < 0; omega)
      obtain ⟨oM', k1, k2⟩ := ink_m hw hm hp
      rw [if_pos (e.mpr c), if_pos (e.mpr c), text_c hw hp, bn1_s, k1, bn2_s]
      exact ⟨_, _, rfl, rfl, k2⟩
    · rw [if_neg (fun z => c (e.mp z)), if_neg (fun z => c (e.mp z))]; exact ⟨_, _, rfl, rfl, kM.rf _⟩
