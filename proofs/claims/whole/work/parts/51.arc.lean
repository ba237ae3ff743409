/-! arcs -/
def slN (r : Nat) : Nat := rt 31 (r * r / 2)
set_option maxRecDepth 100000 in
theorem slant_ok : ∀ r, r < 32 → f_X6_slantingSteps (nI r) = some (nI (slN r)) := by decide +kernel
set_option maxRecDepth 100000 in
theorem steps_ok : ∀ r, r < 32 → ∀ t, t < 8 → f_X7_stepsOf (nI t) (nI r) = some (if t % 2 = 0 then nI r else nI (slN r)) := by decide +kernel
theorem even_ok : ∀ t, t < 8 → ((nI t - nI t / 2 * 2) = 0 ↔ t % 2 = 0) := by decide +kernel
theorem beyond_c (v : Int32) : f_X6_isBeyond v = some (if -31 ≤ v.toInt ∧ v.toInt ≤ 62 then 0 else 1) := by
  unfold f_X6_isBeyond
  have e1 : v < -31 ↔ v.toInt < -31 := by rw [Int32.lt_iff_toInt_lt]; rfl
  have e2 : v ≤ 62 ↔ v.toInt ≤ 62 := by rw [Int32.le_iff_toInt_le]; rfl
  simp only [e1, e2]
  by_cases h1 : v.toInt < -31
  · rw [if_pos h1, if_neg (by omega)]
  · rw [if_neg h1]
    by_cases h2 : v.toInt ≤ 62
    · rw [if_pos h2, if_pos (by omega)]
    · rw [if_neg h2, if_neg (by omega)]
theorem nI_tr {t : Nat} (h : t < 8) : -1 ≤ (nI t).toInt ∧ (nI t).toInt ≤ 7 := by rw [nI_toInt (by omega)]; omega
set_option maxHeartbeats 8000000 in
theorem arc_L {oX oP : St} {r : Nat} (hr : r < 32) (v1 v2 v4 : Int32) : ∀ (d t fc fm : Nat) (came : Int32) (oR oT oB oM : St), t + d = 8 → d < fc → d < fm → REL oX oP oR oT oB oM → ∃ c oR' oT' oB' oM', f_X6_arc_L66 v1 v2 (nI r) v4 (nI (slN r)) fc came (nI t) oR oT oB = some (c, oR', oT', oB') ∧ f_X7_arc_L63 v1 v2 (nI r) v4 fm came (nI t) oM = some (c, oM') ∧ REL oX oP oR' oT' oB' oM'
  | d, t, 0, fm, came, oR, oT, oB, oM, _, h, _, _ => by omega
  | d, t, fc + 1, 0, came, oR, oT, oB, oM, _, _, h, _ => by omega
  | 0, t, fc + 1, fm + 1, came, oR, oT, oB, oM, ht, _, _, hR => by
    have e : t = 8 := by omega
    subst e
    rw [f_X6_arc_L66_s, f_X7_arc_L63_s, if_pos (by decide), if_pos (by decide)]
    exact ⟨_, _, _, _, _, rfl, rfl, hR⟩
  | d + 1, t, fc + 1, fm + 1, came, oR, oT, oB, oM, ht, hfc, hfm, hR => by
    have h8 : t < 8 := by omega
    obtain ⟨zx, zy, ax, ay⟩ := zt_m t h8
    have hs := steps_ok r hr t h8
    have he := even_ok t h8
    rw [f_X6_arc_L66_s, f_X7_arc_L63_s, if_neg (show ¬ (8 : Int32) ≤ nI t from nI_ge (b := 8) h8 (by decide)), if_neg (show ¬ (8 : Int32) ≤ nI t from nI_ge (b := 8) h8 (by decide)), hs, bn1_s, zx, zy, bn1_s, bn1_s, nI_1, Int32.add_zero]
    by_cases hb : (v4 >>> (nI t &&& 31)) &&& 1 = 1
    · rw [if_pos hb, if_pos hb, if_pos hb, ax, ay, bn1_s, bn1_s, bn1_s, bn1_s]
      by_cases ev : t % 2 = 0
      · rw [if_pos (he.mpr ev), if_pos ev]
        obtain ⟨b, oR', oT', oB', oM', g1, g2, g3, -⟩ := come1 hR (v1 - nI r * z_tX t) (v2 - nI r * z_tY t) (nI t) (nI_tr h8)
        rw [g1, g2, bn4_s, bn2_s]
        cases b with
        | true =>
          rw [if_neg (by decide), if_neg (by decide)]
          exact arc_L hr v1 v2 v4 d (t + 1) fc fm (came + 1) oR' oT' oB' oM' (by omega) (by omega) (by omega) g3
        | false =>
          rw [if_pos (by decide), if_pos (by decide)]
          exact arc_L hr v1 v2 v4 d (t + 1) fc fm came oR' oT' oB' oM' (by omega) (by omega) (by omega) g3
      · rw [if_neg (fun z => ev (he.mp z)), if_neg ev]
        obtain ⟨b, oR', oT', oB', oM', g1, g2, g3, -⟩ := come1 hR (v1 - nI (slN r) * z_tX t) (v2 - nI (slN r) * z_tY t) (nI t) (nI_tr h8)
        rw [g1, g2, bn4_s, bn2_s]
        cases b with
        | true =>
          rw [if_neg (by decide), if_neg (by decide)]
          exact arc_L hr v1 v2 v4 d (t + 1) fc fm (came + 1) oR' oT' oB' oM' (by omega) (by omega) (by omega) g3
        | false =>
          rw [if_pos (by decide), if_pos (by decide)]
          exact arc_L hr v1 v2 v4 d (t + 1) fc fm came oR' oT' oB' oM' (by omega) (by omega) (by omega) g3
    · rw [if_neg hb, if_neg hb, if_neg hb]
      have e : (if nI t - nI t / 2 * 2 = 0 then f_X6_arc_L66 v1 v2 (nI r) v4 (nI (slN r)) fc came (nI (t + 1)) oR oT oB else f_X6_arc_L66 v1 v2 (nI r) v4 (nI (slN r)) fc came (nI (t + 1)) oR oT oB) = f_X6_arc_L66 v1 v2 (nI r) v4 (nI (slN r)) fc came (nI (t + 1)) oR oT oB := by split <;> rfl
      rw [e]
      exact arc_L hr v1 v2 v4 d (t + 1) fc fm came oR oT oB oM (by omega) (by omega) (by omega) hR
set_option maxHeartbeats 4000000 in
theorem op_arc {oX oP oR oT oB oM : St} (h : REL oX oP oR oT oB oM) (v1 v2 v3 v4 : Int32) : ∃ r oR' oT' oB' oM', f_X6_arc oR oT oB v1 v2 v3 v4 = some (r, oR', oT', oB') ∧ f_X7_arc oM v1 v2 v3 v4 = some (r, oM') ∧ REL oX oP oR' oT' oB' oM' := by
  have h0 := h
  obtain ⟨n, hw, hm, hT, hp, hR, c6, c7, c8⟩ := h
  unfold f_X6_arc f_X7_arc
  rw [isThere_c, bn1_s, ite01, isSheet_m hm, bn1_s, ite01, beyond_c, bn1_s, ite01, beyond_c, bn1_s, ite01, within_m, bn1_s, ite10, within_m, bn1_s, ite10, within_m, bn1_s, ite10, within_m, bn1_s, ite10]
  by_cases hW : (oB.1 0).toInt ≤ 0
  · rw [if_pos hW, if_pos hW]; exact ⟨_, _, _, _, _, rfl, rfl, h0⟩
  · rw [if_neg hW, if_neg hW]
    by_cases q1 : -31 ≤ v1.toInt ∧ v1.toInt ≤ 62
    · rw [if_pos q1, if_pos (show Int32.toInt (-31) ≤ v1.toInt ∧ v1.toInt ≤ Int32.toInt 62 from q1)]
      by_cases q2 : -31 ≤ v2.toInt ∧ v2.toInt ≤ 62
      · rw [if_pos q2, if_pos (show Int32.toInt (-31) ≤ v2.toInt ∧ v2.toInt ≤ Int32.toInt 62 from q2)]
        have e1 : v3 < 1 ↔ v3.toInt < 1 := by rw [Int32.lt_iff_toInt_lt]; rfl
        have e2 : 31 < v3 ↔ 31 < v3.toInt := by rw [Int32.lt_iff_toInt_lt]; rfl
        have e3 : v4 < 0 ↔ v4.toInt < 0 := by rw [Int32.lt_iff_toInt_lt]; rfl
        have e4 : v4 ≤ 255 ↔ v4.toInt ≤ 255 := by rw [Int32.le_iff_toInt_le]; rfl
        by_cases q3 : (1 : Int) ≤ v3.toInt ∧ v3.toInt ≤ 31
        · rw [if_neg (by rw [e1]; omega), if_neg (by rw [e2]; omega), if_pos (show Int32.toInt 1 ≤ v3.toInt ∧ v3.toInt ≤ Int32.toInt 31 from q3)]
          by_cases q4 : (0 : Int) ≤ v4.toInt ∧ v4.toInt ≤ 255
          · rw [if_neg (by rw [e3]; omega), if_pos (by rw [e4]; omega), if_pos (show Int32.toInt 0 ≤ v4.toInt ∧ v4.toInt ≤ Int32.toInt 255 from q4)]
            obtain ⟨r, hr, rfl⟩ := isJ_t (n := 32) (v := v3) (by unfold isJ; rw [decide_eq_true (by omega), decide_eq_true (by omega)]; rfl)
            rw [slant_ok r hr, bn1_s]
            exact arc_L hr v1 v2 v4 8 0 fu fu 0 oR oT oB oM (by omega) (by unfold fu; omega) (by unfold fu; omega) h0
          · refine ⟨-102, oR, oT, oB, oM, ?_, ?_, h0⟩
            · by_cases h5 : v4 < 0
              · rw [if_pos h5]
              · rw [if_neg h5, if_neg (by rw [e4]; rw [e3] at h5; omega)]
            · rw [if_neg (show ¬ (Int32.toInt 0 ≤ v4.toInt ∧ v4.toInt ≤ Int32.toInt 255) from q4)]
        · refine ⟨-102, oR, oT, oB, oM, ?_, ?_, h0⟩
          · by_cases h5 : v3 < 1
            · rw [if_pos h5]
            · rw [if_neg h5, if_pos (by rw [e2]; rw [e1] at h5; omega)]
          · rw [if_neg (show ¬ (Int32.toInt 1 ≤ v3.toInt ∧ v3.toInt ≤ Int32.toInt 31) from q3)]
      · rw [if_neg q2, if_neg (show ¬ (Int32.toInt (-31) ≤ v2.toInt ∧ v2.toInt ≤ Int32.toInt 62) from q2)]; exact ⟨_, _, _, _, _, rfl, rfl, h0⟩
    · rw [if_neg q1, if_neg (show ¬ (Int32.toInt (-31) ≤ v1.toInt ∧ v1.toInt ≤ Int32.toInt 62) from q1)]; exact ⟨_, _, _, _, _, rfl, rfl, h0⟩
/-! strewn by a seed -/
theorem nI_div {a b : Nat} (ha : a < 2 ^ 31) (hb : b < 2 ^ 31) : nI a / nI b = nI (a / b) := by
  have hd : a / b ≤ a := Nat.div_le_self _ _
  have h1 : bI (nI a) (a : Int) 2147483647 := ⟨nI_toInt ha, by omega⟩
  have h2 : bI (nI b) (b : Int) 2147483647 := ⟨nI_toInt hb, by omega⟩
  exact (h1.div h2 (by omega)).toN (Int.ofNat_tdiv a b).symm (by omega)
theorem lN_div {a b : Nat} (ha : a < 2 ^ 63) (hb : b < 2 ^ 63) : lN a / lN b = lN (a / b) := by
  have hd : a / b ≤ a := Nat.div_le_self _ _
  have h1 : bL (lN a) (a : Int) 9223372036854775807 := ⟨pf_lI ha, by omega⟩
  have h2 : bL (lN b) (b : Int) 9223372036854775807 := ⟨pf_lI hb, by omega⟩
  exact (h1.div h2 (by omega)).toN (Int.ofNat_tdiv a b).symm (by omega)
def nxN (a : Nat) : Nat := (1103515245 * a + 12345) % 2 ^ 31
theorem nxN_lt (a : Nat) : nxN a < 2 ^ 31 := Nat.mod_lt _ (by decide)
theorem next_c {a : Nat} (h : a < 2 ^ 31) : f_X6_nextSeed (nI a) = some (nI (nxN a)) := by
  unfold f_X6_nextSeed
  rw [nI_l h, show (1103515245 : Int64) = lN 1103515245 from rfl, show (12345 : Int64) = lN 12345 from rfl, lN_mul, lN_add, show (2147483647 : Int64) = lN (2 ^ 31 - 1) from rfl, fb_maskL, lN_i]
  rfl
theorem drawn_c {a w : Nat} (ha : a < 2 ^ 31) (hw : 1 ≤ w) (hw2 : w < 2 ^ 31) : f_X6_drawn (nI a) (nI w) = some (nI (a / 65536 % w)) := by
  unfold f_X6_drawn
  have hd : a / 65536 ≤ a := Nat.div_le_self _ _
  have hm : a / 65536 / w * w ≤ a / 65536 := Nat.div_mul_le_self _ _
  rw [if_pos (show (1 : Int32) ≤ nI w from nI_le (a := 1) hw hw2), if_pos (nI_ne0 hw hw2), show (65536 : Int32) = nI 65536 from rfl, nI_div ha (by omega), nI_div (by omega) hw2, nI_mul, nI_sub hm]
  congr 2
  have := Nat.div_add_mod (a / 65536) w
  rw [Nat.mul_comm] at this
  omega
theorem draw_m {oM : St} {a w : Nat} (ha : a < 2 ^ 31) (hw : 1 ≤ w) (hw2 : w < 2 ^ 31) (h : oM.2.1 29 = lN a) : f_X7_drawOf oM (nI w) = some (nI (nxN a / 65536 % w), sL oM 29 (lN (nxN a))) := by
  have hx : 1103515245 * a + 12345 < 2 ^ 62 := by omega
  have hn := nxN_lt a
  have e1 : (1103515245 * oM.2.1 29 + 12345) - (1103515245 * oM.2.1 29 + 12345) / 2147483648 * 2147483648 = lN (nxN a) := by
    rw [h, show (1103515245 : Int64) = lN 1103515245 from rfl, show (12345 : Int64) = lN 12345 from rfl, lN_mul, lN_add, show (2147483648 : Int64) = lN 2147483648 from rfl, lN_div (by omega) (by omega), lN_mul, lN_sub (Nat.div_mul_le_self _ _)]
    have e9 : 1103515245 * a + 12345 - (1103515245 * a + 12345) / 2147483648 * 2147483648 = nxN a := by unfold nxN; omega
    rw [e9]
  unfold f_X7_drawOf
  have hd : nxN a / 65536 ≤ nxN a := Nat.div_le_self _ _
  have hm : nxN a / 65536 / w * w ≤ nxN a / 65536 := Nat.div_mul_le_self _ _
  have hz : ¬ (nI w).toInt64 = 0 := by
    rw [nI_l hw2, show (0 : Int64) = lN 0 from rfl, lN_eq (by omega) (by omega)]
    omega
  rw [e1, bn1_s, if_pos hz, nI_l hw2, show (65536 : Int64) = lN 65536 from rfl, lN_div (by omega) (by omega), lN_div (by omega) (by omega), lN_mul, lN_sub hm, lN_i]
  congr 3
  have := Nat.div_add_mod (nxN a / 65536) w
  rw [Nat.mul_comm] at this
  omega
theorem sL_same (S : St) (k : Nat) (v : Int64) : (sL S k v).2.1 k = v := by rw [sL_2, if_pos rfl]
theorem REL.seed {oX oP oR oT oB oM : St} (h : REL oX oP oR oT oB oM) (v : Int64) : REL oX oP oR oT oB (sL oM 29 v) := h.k ((kM.rf oM).l v) (fun _ _ _ h => h)
set_option maxHeartbeats 8000000 in
theorem strew_L {oX oP : St} {m W H : Nat} (hm : m ≤ 14) (hW : 1 ≤ W) (hW2 : W < 40) (hH : 1 ≤ H) (hH2 : H < 40) : ∀ (d t fc fm a : Nat) (came : Int32) (oR oT oB oM : St), t + d = m → d < fc → d < fm → a < 2 ^ 31 → oM.2.1 29 = lN a → oB.1 0 = nI W → oB.1 1 = nI H → REL oX oP oR oT oB oM → ∃ c oR' oT' oB' oM', f_X6_strew_L39 (nI m) fc came (nI a) (nI t) oR oT oB = some (c, oR', oT', oB') ∧ f_X7_strew_L38 (nI m) fm came (nI t) oM = some (c, oM') ∧ REL oX oP oR' oT' oB' oM'
  | d, t, 0, fm, a, came, oR, oT, oB, oM, _, h, _, _, _, _, _, _ => by omega
  | d, t, fc + 1, 0, a, came, oR, oT, oB, oM, _, _, h, _, _, _, _, _ => by omega
  | 0, t, fc + 1, fm + 1, a, came, oR, oT, oB, oM, ht, _, _, _, _, _, _, hR => by
    have e : t = m := by omega
    subst e
    rw [f_X6_strew_L39_s, f_X7_strew_L38_s, if_pos (nI_le (Nat.le_refl _) (by omega)), if_pos (nI_le (Nat.le_refl _) (by omega))]
    exact ⟨_, _, _, _, _, rfl, rfl, hR⟩
  | d + 1, t, fc + 1, fm + 1, a, came, oR, oT, oB, oM, ht, hfc, hfm, ha, h29, b0', b1', hR => by
    have h8 : t < m := by omega
    have a1 := nxN_lt a
    have a2 := nxN_lt (nxN a)
    have a3 := nxN_lt (nxN (nxN a))
    have hmb : oM.1 2 = nI W ∧ oM.1 3 = nI H := by
      obtain ⟨n, hw, hmm, -⟩ := hR
      exact ⟨by rw [hmm.1, b0'], by rw [hmm.2.1, b1']⟩
    rw [f_X6_strew_L39_s, f_X7_strew_L38_s, if_neg (nI_ge h8 (by omega)), if_neg (nI_ge h8 (by omega)), next_c ha, bn1_s, b0', drawn_c a1 hW (by omega), bn1_s, next_c a1, bn1_s, b1', drawn_c a2 hH (by omega), bn1_s, next_c a2, bn1_s, show (9 : Int32) = nI 9 from rfl, drawn_c a3 (by omega) (by omega), bn1_s]
    rw [hmb.1, draw_m ha hW (by omega) h29, bn2_s, show (sL oM 29 (lN (nxN a))).1 3 = nI H from hmb.2, draw_m a1 hH (by omega) (sL_same oM 29 (lN (nxN a))), bn2_s, draw_m a2 (by omega) (by omega) (sL_same (sL oM 29 (lN (nxN a))) 29 (lN (nxN (nxN a)))), bn2_s, nI_1, Int32.add_zero]
    have hR3 := ((hR.seed (lN (nxN a))).seed (lN (nxN (nxN a)))).seed (lN (nxN (nxN (nxN a))))
    have hlt : nxN (nxN (nxN a)) / 65536 % 9 < 9 := Nat.mod_lt _ (by omega)
    by_cases ev : nxN (nxN (nxN a)) / 65536 % 9 = 8
    · rw [if_pos (by rw [ev]; rfl), if_pos (by rw [ev]; rfl)]
      obtain ⟨b, oR', oT', oB', oM', g1, g2, g3, g4, g5, g6, -⟩ := come1 hR3 (nI (nxN a / 65536 % W)) (nI (nxN (nxN a) / 65536 % H)) (-1) (by decide)
      rw [g1, g2, bn4_s, bn2_s]
      have h29' : oM'.2.1 29 = lN (nxN (nxN (nxN a))) := by rw [g6]; exact sL_same _ _ _
      cases b with
      | true =>
        rw [if_neg (by decide), if_neg (by decide)]
        exact strew_L hm hW hW2 hH hH2 d (t + 1) fc fm _ (came + 1) oR' oT' oB' oM' (by omega) (by omega) (by omega) a3 h29' (by rw [g4, b0']) (by rw [g5, b1']) g3
      | false =>
        rw [if_pos (by decide), if_pos (by decide)]
        exact strew_L hm hW hW2 hH hH2 d (t + 1) fc fm _ came oR' oT' oB' oM' (by omega) (by omega) (by omega) a3 h29' (by rw [g4, b0']) (by rw [g5, b1']) g3
    · have hne : ¬ nI (nxN (nxN (nxN a)) / 65536 % 9) = 8 := fun z => ev ((nI_eq (b := 8) (by omega) (by omega)).mp z)
      rw [if_neg hne, if_neg hne]
      obtain ⟨b, oR', oT', oB', oM', g1, g2, g3, g4, g5, g6, -⟩ := come1 hR3 (nI (nxN a / 65536 % W)) (nI (nxN (nxN a) / 65536 % H)) (nI (nxN (nxN (nxN a)) / 65536 % 9)) (nI_tr (by omega))
      rw [g1, g2, bn4_s, bn2_s]
      have h29' : oM'.2.1 29 = lN (nxN (nxN (nxN a))) := by rw [g6]; exact sL_same _ _ _
      cases b with
      | true =>
        rw [if_neg (by decide), if_neg (by decide)]
        exact strew_L hm hW hW2 hH hH2 d (t + 1) fc fm _ (came + 1) oR' oT' oB' oM' (by omega) (by omega) (by omega) a3 h29' (by rw [g4, b0']) (by rw [g5, b1']) g3
      | false =>
        rw [if_pos (by decide), if_pos (by decide)]
        exact strew_L hm hW hW2 hH hH2 d (t + 1) fc fm _ came oR' oT' oB' oM' (by omega) (by omega) (by omega) a3 h29' (by rw [g4, b0']) (by rw [g5, b1']) g3
set_option maxHeartbeats 4000000 in
theorem op_strew {oX oP oR oT oB oM : St} (h : REL oX oP oR oT oB oM) (v1 v2 : Int32) : ∃ r oR' oT' oB' oM', f_X6_strew oR oT oB v1 v2 = some (r, oR', oT', oB') ∧ f_X7_strew oM v1 v2 = some (r, oM') ∧ REL oX oP oR' oT' oB' oM' := by
  have h0 := h
  obtain ⟨n, hw, hm, hT, hp, hR, c6, c7, c8⟩ := h
  unfold f_X6_strew f_X7_strew
  rw [isThere_c, bn1_s, ite01, isSheet_m hm, bn1_s, ite01, within_m, bn1_s, ite10]
  by_cases hW : (oB.1 0).toInt ≤ 0
  · rw [if_pos hW, if_pos hW]; exact ⟨_, _, _, _, _, rfl, rfl, h0⟩
  · rw [if_neg hW, if_neg hW]
    have e1 : v1 < 1 ↔ v1.toInt < 1 := by rw [Int32.lt_iff_toInt_lt]; rfl
    have e2 : 14 < v1 ↔ 14 < v1.toInt := by rw [Int32.lt_iff_toInt_lt]; rfl
    have e3 : 0 ≤ v2 ↔ 0 ≤ v2.toInt := by rw [Int32.le_iff_toInt_le]; rfl
    by_cases q1 : (1 : Int) ≤ v1.toInt ∧ v1.toInt ≤ 14
    · rw [if_neg (by rw [e1]; omega), if_neg (by rw [e2]; omega), if_pos (show Int32.toInt 1 ≤ v1.toInt ∧ v1.toInt ≤ Int32.toInt 14 from q1)]
      by_cases q2 : 0 ≤ v2.toInt
      · rw [if_pos (e3.mpr q2), if_pos (e3.mpr q2)]
        by_cases hH : (oB.1 1).toInt ≤ 0
        · exact absurd hH (by have := (hw.2.2.2.2.2.2.2.2.2.2.2 (by omega)).2; omega)
        · obtain ⟨m, hm2, rfl⟩ := isJ_t (n := 15) (v := v1) (by unfold isJ; rw [decide_eq_true (by omega), decide_eq_true (by omega)]; rfl)
          obtain ⟨a, ha, rfl⟩ := nI_of (x := v2) (by rw [Int32.lt_iff_toInt_lt]; show ¬ v2.toInt < 0; omega)
          have hwb := hw.2.2.1
          have hhb := hw.2.2.2.1
          have b0' : oB.1 0 = nI (oB.1 0).toInt.toNat := Int32.toInt_inj.mp (by rw [nI_toInt (by omega)]; omega)
          have b1' : oB.1 1 = nI (oB.1 1).toInt.toNat := Int32.toInt_inj.mp (by rw [nI_toInt (by omega)]; omega)
          refine strew_L (W := (oB.1 0).toInt.toNat) (H := (oB.1 1).toInt.toNat) (by omega) (by omega) (by omega) (by omega) (by omega) m 0 fu fu a 0 oR oT oB (sL oM 29 (nI a).toInt64) (by omega) (by unfold fu; omega) (by unfold fu; omega) ha ?_ b0' b1' (h0.seed _)
          rw [sL_same, nI_l ha]
      · rw [if_neg (fun z => q2 (e3.mp z)), if_neg (fun z => q2 (e3.mp z))]
        exact ⟨_, _, _, _, _, rfl, rfl, h0⟩
    · refine ⟨-102, oR, oT, oB, oM, ?_, ?_, h0⟩
      · by_cases h5 : v1 < 1
        · rw [if_pos h5]
        · rw [if_neg h5, if_pos (by rw [e2]; rw [e1] at h5; omega)]
      · rw [if_neg (show ¬ (Int32.toInt 1 ≤ v1.toInt ∧ v1.toInt ≤ Int32.toInt 14) from q1)]
