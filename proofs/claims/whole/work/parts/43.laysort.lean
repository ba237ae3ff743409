theorem kS_parts {oB : St} {n a b c : Nat} (hw : wB oB n) (h : vS oB a b c = true) : kS oB a b c % 32 = (cCX oB a b c).toNat ∧ kS oB a b c / 32 % 32 = (cCY oB a b c).toNat ∧ kS oB a b c / 1024 % 32 = rS oB a b c := by
  obtain ⟨-, -, -, -, -, -, -, h8, h9, h10, -, -⟩ := vS_e hw h
  unfold kS
  omega
theorem QM.same {oB : St} {l l2 : List (Nat × Nat × Nat)} {oM oM' : St} (h : QM oB l oM) (hb : bal oB l2 = bal oB l) (h36 : oM'.1 36 = oM.1 36) (h37 : oM'.1 37 = oM.1 37) (h38 : oM'.1 38 = nI (olc oB l2)) (hR : oM'.2.2 = oM.2.2) : QM oB l2 oM' := by
  obtain ⟨M, E, q1, q2, q3, q4, q5, q6, q7, q8⟩ := h
  refine ⟨M, E, h36.trans q1, ?_, h38, ?_, ?_, ?_, ?_, q8⟩
  · rw [h37, hb]; exact q2
  · rw [hb]; exact q4
  · unfold eT; rw [hR]; exact q5
  · rw [hb]; exact q6
  · rw [hb]; exact q7
set_option maxHeartbeats 4000000 in
theorem layv_1 {oB oM : St} {n a b c : Nat} (hw : wB oB n) (hm : mB oM oB n) (ha : a < n) (hb : b < n) (hc : c < n) {l : List (Nat × Nat × Nat)} (hl : l.length < 364) (hq : QM oB l oM) : ∃ oM', f_X7_layVote oM (nI a) (nI b) (nI c) = some oM' ∧ kK oM oM' ∧ QM oB (l ++ [(a, b, c)]) oM' := by
  obtain ⟨d, x, y, k1, k2, k3, k4⟩ := lay_m hw hm ha hb hc
  have hM := isM_lay oM k2 k3 k4
  have hkm : kK oM (sL (sL (sL oM 30 d) 31 x) 32 y) := ⟨(((kM.rf oM).l d).l x).l y, rfl⟩
  have r0 : (sL (sL (sL oM 30 d) 31 x) 32 y).2.2 = oM.2.2 := rfl
  have r1 : (sL (sL (sL oM 30 d) 31 x) 32 y).1 = oM.1 := rfl
  unfold f_X7_layVote
  rw [k1, bn2_s]
  generalize sL (sL (sL oM 30 d) 31 x) 32 y = oM2 at hM hkm r0 r1 ⊢
  have hm2 := hm.k hkm.1
  by_cases hD : cD oB a b c = 0
  · rw [if_pos hD, if_pos rfl]
    refine ⟨_, rfl, hkm, hq.same (bal_no (vS_D hD)) (by rw [r1]) (by rw [r1]) ?_ r0⟩
    rw [r1, olc_no hD]
    obtain ⟨M, E, q1, q2, q3, -⟩ := hq
    exact q3
  · rw [if_neg hD, if_neg (by decide)]
    have h38 : (sI oM2 38 (oM2.1 38 + 1)).1 38 = nI (olc oB (l ++ [(a, b, c)])) := by
      obtain ⟨M, E, q1, q2, q3, -⟩ := hq
      show oM2.1 38 + 1 = _
      rw [r1, q3, nI_1, olc_yes hD]
    have hk3 : kK oM (sI oM2 38 (oM2.1 38 + 1)) := hkm.i _ (by omega)
    have hM3 : isM (sI oM2 38 (oM2.1 38 + 1)) oB a b c := hM
    have r2 : (sI oM2 38 (oM2.1 38 + 1)).2.2 = oM.2.2 := r0
    have r3 : ∀ k, k ≠ 38 → (sI oM2 38 (oM2.1 38 + 1)).1 k = oM.1 k := fun k hk => by rw [sI_1, if_neg hk, r1]
    generalize sI oM2 38 (oM2.1 38 + 1) = oM3 at h38 hk3 hM3 r2 r3 ⊢
    have hm3 := hm.k hk3.1
    obtain ⟨oM6, w1, w2, w3⟩ := vote_m hw hm3 ha hb hc hM3 hD
    rw [w1, bn2_s]
    by_cases hv : vS oB a b c = true
    · rw [if_pos hv, if_neg (by decide)]
      obtain ⟨M, E, q1, q2, q3, q4, q5, q6, q7, q8⟩ := hq
      obtain ⟨v1, v2, v3⟩ := w3 hv
      obtain ⟨s1, s2, s3⟩ := kS_parts hw hv
      have hlen := bal_len oB l
      have hk6 : kK oM (sI oM6 37 (oM6.1 37 + 1)) := (hk3.tr w2.kk).i _ (by omega)
      obtain ⟨oM9, u1, u2, u3⟩ := vote_1 (oM := sI oM6 37 (oM6.1 37 + 1)) (M := M) (E := E) (by omega) (fun q hq => bal_lt hw hq) (bal_yes (l := l) hv) (by
          show oM6.1 36 = _
          rw [w2.2 36 (by omega), r3 36 (by omega), q1]) (by
          show oM6.1 37 + 1 = _
          rw [w2.2 37 (by omega), r3 37 (by omega), q2, nI_1]) (by
          show oM6.1 38 = _
          rw [w2.2 38 (by omega), h38]) q4 (by
          show eT oM6 M E
          unfold eT
          rw [w2.1, r2]
          exact q5) q6 q7 q8 (kS_lt hw hv) (by rw [s1]; exact v1) (by rw [s2]; exact v2) (by rw [s3]; exact v3)
      rw [u1, bn1_s]
      exact ⟨_, rfl, hk6.tr u2, u3⟩
    · rw [if_neg hv, if_pos rfl]
      refine ⟨_, rfl, hk3.tr w2.kk, hq.same (bal_no hv) ?_ ?_ ?_ ?_⟩
      · rw [w2.2 36 (by omega), r3 36 (by omega)]
      · rw [w2.2 37 (by omega), r3 37 (by omega)]
      · rw [w2.2 38 (by omega), h38]
      · rw [w2.1, r2]
theorem layv_C {oB oM0 oM : St} {n a b : Nat} (hw : wB oB n) (hm : mB oM0 oB n) (ha : a < n) (hb : b < n) (K : St → Option St) {l : List (Nat × Nat × Nat)} (hl : l.length + (n - (b + 1)) ≤ 364) (hk : kK oM0 oM) (hq : QM oB l oM) : ∃ oM', f_X7_laySpots_L41 (nI a) (nI b) K fu (nI (b + 1)) oM = K oM' ∧ kK oM0 oM' ∧ QM oB (l ++ rC a b (b + 1) (n - (b + 1))) oM' := by
  have hn := hw.1
  obtain ⟨s, h1, h2⟩ := lpn (fun fuel k (s : St) => f_X7_laySpots_L41 (nI a) (nI b) K fuel (nI k) s) (fun s => K s) n (fun k s => b + 1 ≤ k ∧ kK oM0 s ∧ QM oB (l ++ rC a b (b + 1) (k - (b + 1))) s) (by
    intro fuel k s hk hs
    obtain ⟨hs0, hsk, hs⟩ := hs
    have hms := hm.k hsk.1
    obtain ⟨oM', g1, g2, g3⟩ := layv_1 hw hms ha hb hk (by rw [List.length_append, rC_len]; omega) hs
    refine ⟨oM', ?_, by omega, hsk.tr g2, ?_⟩
    · show f_X7_laySpots_L41 (nI a) (nI b) K (fuel + 1) (nI k) s = f_X7_laySpots_L41 (nI a) (nI b) K fuel (nI (k + 1)) oM'
      rw [f_X7_laySpots_L41_s, hms.2.2.1, if_neg (nI_ge hk (by omega)), g1, bn1_s, nI_1]
    · have e : k + 1 - (b + 1) = k - (b + 1) + 1 := by omega
      have e2 : b + 1 + (k - (b + 1)) = k := by omega
      rw [e]
      show QM oB (l ++ (rC a b (b + 1) (k - (b + 1)) ++ [(a, b, b + 1 + (k - (b + 1)))])) oM'
      rw [e2, ← List.append_assoc]
      exact g3) (by
    intro fuel s hs
    show f_X7_laySpots_L41 (nI a) (nI b) K (fuel + 1) (nI n) s = _
    rw [f_X7_laySpots_L41_s, (hm.k hs.2.1.1).2.2.1, if_pos (nI_le (Nat.le_refl _) (by omega))]) fu (b + 1) oM (by omega) (by unfold fu; omega) ⟨by omega, hk, by
      show QM oB (l ++ rC a b (b + 1) (b + 1 - (b + 1))) oM
      rw [Nat.sub_self]
      show QM oB (l ++ []) oM
      rw [List.append_nil]
      exact hq⟩
  exact ⟨s, h1, h2.2⟩
theorem layv_B {oB oM0 oM : St} {n a : Nat} (hw : wB oB n) (hm : mB oM0 oB n) (ha : a < n) (K : St → Option St) {l : List (Nat × Nat × Nat)} (hl : l.length + (rB a n (a + 1) (n - (a + 1))).length ≤ 364) (hk : kK oM0 oM) (hq : QM oB l oM) : ∃ oM', f_X7_laySpots_L29 (nI a) K fu (nI (a + 1)) oM = K oM' ∧ kK oM0 oM' ∧ QM oB (l ++ rB a n (a + 1) (n - (a + 1))) oM' := by
  have hn := hw.1
  obtain ⟨s, h1, h2⟩ := lpn (fun fuel k (s : St) => f_X7_laySpots_L29 (nI a) K fuel (nI k) s) (fun s => K s) n (fun k s => a + 1 ≤ k ∧ kK oM0 s ∧ QM oB (l ++ rB a n (a + 1) (k - (a + 1))) s) (by
    intro fuel k s hk hs
    obtain ⟨hs0, hsk, hs⟩ := hs
    have hms := hm.k hsk.1
    have e : k + 1 - (a + 1) = k - (a + 1) + 1 := by omega
    have e2 : a + 1 + (k - (a + 1)) = k := by omega
    have hmo := rB_mono a n (a + 1) (k - (a + 1) + 1) (n - (a + 1) - (k - (a + 1) + 1))
    rw [show k - (a + 1) + 1 + (n - (a + 1) - (k - (a + 1) + 1)) = n - (a + 1) by omega, rB_len, e2] at hmo
    obtain ⟨oM', g1, g2, g3⟩ := layv_C (b := k) hw hm ha hk (fun (oM6 : St) => f_X7_laySpots_L29 (nI a) K fuel (nI k + 1) oM6) (l := l ++ rB a n (a + 1) (k - (a + 1))) (by rw [List.length_append]; omega) hsk hs
    refine ⟨oM', ?_, by omega, g2, ?_⟩
    · show f_X7_laySpots_L29 (nI a) K (fuel + 1) (nI k) s = f_X7_laySpots_L29 (nI a) K fuel (nI (k + 1)) oM'
      rw [f_X7_laySpots_L29_s, hms.2.2.1, if_neg (nI_ge hk (by omega))]
      rw [nI_1 k] at g1 ⊢
      exact g1
    · rw [e]
      show QM oB (l ++ (rB a n (a + 1) (k - (a + 1)) ++ rC a (a + 1 + (k - (a + 1))) (a + 1 + (k - (a + 1)) + 1) (n - (a + 1 + (k - (a + 1)) + 1)))) oM'
      rw [e2, ← List.append_assoc]
      exact g3) (by
    intro fuel s hs
    show f_X7_laySpots_L29 (nI a) K (fuel + 1) (nI n) s = _
    rw [f_X7_laySpots_L29_s, (hm.k hs.2.1.1).2.2.1, if_pos (nI_le (Nat.le_refl _) (by omega))]) fu (a + 1) oM (by omega) (by unfold fu; omega) ⟨by omega, hk, by
      show QM oB (l ++ rB a n (a + 1) (a + 1 - (a + 1))) oM
      rw [Nat.sub_self]
      show QM oB (l ++ []) oM
      rw [List.append_nil]
      exact hq⟩
  exact ⟨s, h1, h2.2⟩
theorem layv_A {oB oM0 oM : St} {n : Nat} (hw : wB oB n) (hm : mB oM0 oB n) (K : St → Option St) (hk : kK oM0 oM) (hq : QM oB [] oM) : ∃ oM', f_X7_laySpots_L17 K fu 0 oM = K oM' ∧ kK oM0 oM' ∧ QM oB (tri n) oM' := by
  have hn := hw.1
  obtain ⟨s, h1, h2⟩ := lpn (fun fuel k (s : St) => f_X7_laySpots_L17 K fuel (nI k) s) (fun s => K s) n (fun k s => kK oM0 s ∧ QM oB (rA n k) s) (by
    intro fuel k s hk hs
    obtain ⟨hsk, hs⟩ := hs
    have hms := hm.k hsk.1
    have hmo := rA_mono n (k + 1) (n - (k + 1))
    rw [show k + 1 + (n - (k + 1)) = n by omega, rA_len] at hmo
    have ht : (rA n n).length ≤ 364 := tri_len n (by omega)
    obtain ⟨oM', g1, g2, g3⟩ := layv_B (a := k) hw hm hk (fun (oM7 : St) => f_X7_laySpots_L17 K fuel (nI k + 1) oM7) (l := rA n k) (by omega) hsk hs
    refine ⟨oM', ?_, g2, g3⟩
    show f_X7_laySpots_L17 K (fuel + 1) (nI k) s = f_X7_laySpots_L17 K fuel (nI (k + 1)) oM'
    rw [f_X7_laySpots_L17_s, hms.2.2.1, if_neg (nI_ge hk (by omega))]
    rw [nI_1 k] at g1 ⊢
    exact g1) (by
    intro fuel s hs
    show f_X7_laySpots_L17 K (fuel + 1) (nI n) s = _
    rw [f_X7_laySpots_L17_s, (hm.k hs.1.1).2.2.1, if_pos (nI_le (Nat.le_refl _) (by omega))]) fu 0 oM (by omega) (by unfold fu; omega) ⟨hk, hq⟩
  exact ⟨s, h1, h2⟩
/-! put in order -/
set_option maxHeartbeats 4000000 in
theorem ahead_m {oM : St} {M i j : Nat} {E : Nat → Nat} (hM : M ≤ 364) (hE : eT oM M E) (hi : i < M) (hj : j < M) : f_X7_isAhead oM (nI i) (nI j) = some (if E i < E j then 1 else 0) := by
  obtain ⟨a1, a2, a3, a4, a5⟩ := hE i hi
  obtain ⟨b1, b2, b3, b4, b5⟩ := hE j hj
  unfold f_X7_isAhead
  simp only [ag_n (show i < 364 by omega) (by decide : 364 < 2 ^ 31), ag_n (show j < 364 by omega) (by decide : 364 < 2 ^ 31), bn1_s, a1, a2, a3, a4, b1, b2, b3, b4]
  simp only [nI_eq (show 364 - E i / 32768 < 2 ^ 31 by omega) (show 364 - E j / 32768 < 2 ^ 31 by omega), nI_eq (show E i / 1024 % 32 < 2 ^ 31 by omega) (show E j / 1024 % 32 < 2 ^ 31 by omega), nI_ltI (show E i / 32 % 32 < 2 ^ 31 by omega) (show E j / 32 % 32 < 2 ^ 31 by omega), nI_eq (show E i / 32 % 32 < 2 ^ 31 by omega) (show E j / 32 % 32 < 2 ^ 31 by omega), nI_leI (show E j % 32 < 2 ^ 31 by omega) (show E i % 32 < 2 ^ 31 by omega), nI_leI (show E j / 1024 % 32 < 2 ^ 31 by omega) (show E i / 1024 % 32 < 2 ^ 31 by omega), nI_leI (show 364 - E i / 32768 < 2 ^ 31 by omega) (show 364 - E j / 32768 < 2 ^ 31 by omega)]
  by_cases c1 : 364 - E i / 32768 = 364 - E j / 32768
  · rw [if_pos c1]
    by_cases c2 : E i / 1024 % 32 = E j / 1024 % 32
    · rw [if_pos c2]
      by_cases c3 : E i / 32 % 32 < E j / 32 % 32
      · rw [if_pos c3, if_pos (by omega)]
      · rw [if_neg c3]
        by_cases c4 : E i / 32 % 32 = E j / 32 % 32
        · rw [if_pos c4]
          by_cases c5 : E j % 32 ≤ E i % 32
          · rw [if_pos c5, if_neg (by omega)]
          · rw [if_neg c5, if_pos (by omega)]
        · rw [if_neg c4, if_neg (by omega)]
    · rw [if_neg c2]
      by_cases c3 : E j / 1024 % 32 ≤ E i / 1024 % 32
      · rw [if_pos c3, if_neg (by omega)]
      · rw [if_neg c3, if_pos (by omega)]
  · rw [if_neg c1]
    by_cases c2 : 364 - E i / 32768 ≤ 364 - E j / 32768
    · rw [if_pos c2, if_neg (by omega)]
    · rw [if_neg c2, if_pos (by omega)]
def sw (E : Nat → Nat) (i j : Nat) : Nat → Nat := fun p => if p = j then E i else if p = i then E j else E p
theorem swap_m {f : Nat → Int32} {i j : Nat} (hi : i < 364) (hj : j < 364) : f_X7_swap f (nI i) (nI j) = some (upd (upd f i (f j)) j (f i)) := by
  unfold f_X7_swap
  simp only [ag_n hi (by decide : 364 < 2 ^ 31), ag_n hj (by decide : 364 < 2 ^ 31), au_n hi (by decide : 364 < 2 ^ 31), au_n hj (by decide : 364 < 2 ^ 31), bn1_s]
theorem swaps_m {oM : St} {M i j : Nat} {E : Nat → Nat} (hM : M ≤ 364) (hE : eT oM M E) (hi : i < M) (hj : j < M) : ∃ oM', f_X7_swapSpots oM (nI i) (nI j) = some oM' ∧ kK oM oM' ∧ eT oM' M (sw E i j) ∧ oM'.1 = oM.1 := by
  unfold f_X7_swapSpots
  simp only [swap_m (show i < 364 by omega) (show j < 364 by omega), bn1_s]
  refine ⟨_, rfl, ((((kK.rf oM).r _ (by omega)).r _ (by omega)).r _ (by omega)).r _ (by omega), ?_, rfl⟩
  intro p hp
  show upd (upd (oM.2.2 39) i (oM.2.2 39 j)) j (oM.2.2 39 i) p = _ ∧ upd (upd (oM.2.2 40) i (oM.2.2 40 j)) j (oM.2.2 40 i) p = _ ∧ upd (upd (oM.2.2 41) i (oM.2.2 41 j)) j (oM.2.2 41 i) p = _ ∧ upd (upd (oM.2.2 42) i (oM.2.2 42 j)) j (oM.2.2 42 i) p = _ ∧ _
  simp only [upd_e, sw]
  by_cases c1 : p = j
  · simp only [if_pos c1]; exact hE i hi
  · simp only [if_neg c1]
    by_cases c2 : p = i
    · simp only [if_pos c2]; exact hE j hj
    · simp only [if_neg c2]; exact hE p hp
/-- the same numbers, all unlike -/
def PS (E E' : Nat → Nat) (M : Nat) : Prop := (∀ p, p < M → ∃ q, q < M ∧ E' p = E q) ∧ (∀ p, p < M → ∃ q, q < M ∧ E p = E' q) ∧ ∀ a b, a < b → b < M → E' a ≠ E' b
theorem PS.tr {E E' E'' : Nat → Nat} {M : Nat} (h : PS E E' M) (h2 : PS E' E'' M) : PS E E'' M := by
  refine ⟨fun p hp => ?_, fun p hp => ?_, h2.2.2⟩
  · obtain ⟨q, hq, e⟩ := h2.1 p hp
    obtain ⟨r, hr, e2⟩ := h.1 q hq
    exact ⟨r, hr, e.trans e2⟩
  · obtain ⟨q, hq, e⟩ := h.2.1 p hp
    obtain ⟨r, hr, e2⟩ := h2.2.1 q hq
    exact ⟨r, hr, e.trans e2⟩
theorem ps_sw {E : Nat → Nat} {M i : Nat} (hd : ∀ a b, a < b → b < M → E a ≠ E b) (hi : i + 1 < M) : PS E (sw E (i + 1) i) M := by
  have ev : ∀ p, sw E (i + 1) i p = if p = i then E (i + 1) else if p = i + 1 then E i else E p := fun p => rfl
  refine ⟨fun p hp => ?_, fun p hp => ?_, fun a b hab hb => ?_⟩
  · rw [ev]
    by_cases c : p = i
    · rw [if_pos c]; exact ⟨i + 1, hi, rfl⟩
    · rw [if_neg c]
      by_cases c2 : p = i + 1
      · rw [if_pos c2]; exact ⟨i, by omega, rfl⟩
      · rw [if_neg c2]; exact ⟨p, hp, rfl⟩
  · by_cases c : p = i
    · refine ⟨i + 1, hi, ?_⟩
      rw [ev, if_neg (by omega), if_pos rfl, c]
    · by_cases c2 : p = i + 1
      · refine ⟨i, by omega, ?_⟩
        rw [ev, if_pos rfl, c2]
      · refine ⟨p, hp, ?_⟩
        rw [ev, if_neg c, if_neg c2]
  · rw [ev, ev]
    by_cases c : a = i
    · rw [if_pos c, if_neg (show ¬ b = i by omega)]
      by_cases c2 : b = i + 1
      · rw [if_pos c2]; exact fun z => hd i (i + 1) (by omega) hi z.symm
      · rw [if_neg c2]; exact hd (i + 1) b (by omega) hb
    · rw [if_neg c]
      by_cases c2 : a = i + 1
      · rw [if_pos c2, if_neg (show ¬ b = i by omega), if_neg (show ¬ b = i + 1 by omega)]; exact hd i b (by omega) hb
      · rw [if_neg c2]
        by_cases c3 : b = i
        · rw [if_pos c3]; exact hd a (i + 1) (by omega) hi
        · rw [if_neg c3]
          by_cases c4 : b = i + 1
          · rw [if_pos c4]; exact hd a i (by omega) (by omega)
          · rw [if_neg c4]; exact hd a b hab hb
set_option maxHeartbeats 4000000 in
theorem ins_L {M i : Nat} (hM : M ≤ 364) (hi : i < M) (v1 : Int32) (K : St → Option St) :
    ∀ (fuel e : Nat) (oM : St) (E : Nat → Nat), e < fuel → e ≤ i → eT oM M E → (∀ a b, a < b → b < M → E a ≠ E b) → (∀ a b, a < b → b ≤ i → a ≠ e → b ≠ e → E a < E b) → (∀ b, e < b → b ≤ i → E e < E b) → ∃ oM' E', f_X7_laySpots_L86 v1 K fuel (nI e) oM = K oM' ∧ kK oM oM' ∧ eT oM' M E' ∧ PS E E' M ∧ oM'.1 = oM.1 ∧ ∀ a b, a < b → b ≤ i → E' a < E' b
  | 0, e, oM, E, h, _, _, _, _, _ => by omega
  | fuel + 1, e, oM, E, hf, he, hE, hd, h1, h2 => by
    rw [f_X7_laySpots_L86_s]
    have ps : PS E E M := ⟨fun p hp => ⟨p, hp, rfl⟩, fun p hp => ⟨p, hp, rfl⟩, hd⟩
    cases e with
    | zero =>
      rw [if_pos (by decide)]
      refine ⟨oM, E, rfl, kK.rf _, hE, ps, rfl, fun a b hab hb => ?_⟩
      by_cases c : a = 0
      · rw [c]; exact h2 b (by omega) hb
      · exact h1 a b hab hb c (by omega)
    | succ e =>
      rw [if_neg (nI_nle (by omega) (by omega)), nI_s1, ahead_m hM hE (by omega) (by omega), bn1_s, ite10]
      by_cases c : E (e + 1) < E e
      · rw [if_pos c]
        obtain ⟨oM2, g1, g2, g3, g4⟩ := swaps_m hM hE (show e + 1 < M by omega) (show e < M by omega)
        rw [g1, bn1_s, nI_m1]
        have ps2 := ps_sw hd (show e + 1 < M by omega)
        have ev : ∀ p, sw E (e + 1) e p = if p = e then E (e + 1) else if p = e + 1 then E e else E p := fun p => rfl
        obtain ⟨oM', E', k1, k2, k3, k4, k5, k6⟩ := ins_L hM hi v1 K fuel e oM2 (sw E (e + 1) e) (by omega) (by omega) g3 ps2.2.2 (by
          intro a b hab hb ha hb2
          rw [ev, ev, if_neg ha, if_neg hb2]
          by_cases c1 : a = e + 1
          · rw [if_pos c1, if_neg (show ¬ b = e + 1 by omega)]; exact h1 e b (by omega) hb (by omega) (by omega)
          · rw [if_neg c1]
            by_cases c2 : b = e + 1
            · rw [if_pos c2]; exact h1 a e (by omega) (by omega) (by omega) (by omega)
            · rw [if_neg c2]; exact h1 a b hab hb c1 c2) (by
          intro b hb hb2
          rw [ev, ev, if_pos rfl, if_neg (show ¬ b = e by omega)]
          by_cases c2 : b = e + 1
          · rw [if_pos c2]; exact c
          · rw [if_neg c2]; exact h2 b (by omega) hb2)
        exact ⟨oM', E', k1, g2.tr k2, k3, ps2.tr k4, k5.trans g4, k6⟩
      · rw [if_neg c]
        have hne := hd e (e + 1) (by omega) (by omega)
        refine ⟨oM, E, rfl, kK.rf _, hE, ps, rfl, fun a b hab hb => ?_⟩
        by_cases c1 : a = e + 1
        · rw [c1]; exact h2 b (by omega) hb
        · by_cases c2 : b = e + 1
          · rw [c2]
            by_cases c3 : a = e
            · rw [c3]; omega
            · have := h1 a e (by omega) (by omega) c1 (by omega)
              omega
          · exact h1 a b hab hb c1 c2
set_option maxHeartbeats 4000000 in
theorem ord_L {M : Nat} (hM : M ≤ 364) : ∀ (fuel i : Nat) (oM : St) (E : Nat → Nat), M - i < fuel → 1 ≤ i → i < 366 → oM.1 36 = nI M → eT oM M E → (∀ a b, a < b → b < M → E a ≠ E b) → (∀ a b, a < b → b < i → b < M → E a < E b) → ∃ oM' E', f_X7_laySpots_L76 fuel (nI i) oM = some oM' ∧ kK oM oM' ∧ eT oM' M E' ∧ PS E E' M ∧ oM'.1 = oM.1 ∧ ∀ a b, a < b → b < M → E' a < E' b
  | 0, i, oM, E, h, _, _, _, _, _, _ => by omega
  | fuel + 1, i, oM, E, hf, hi, hi2, h36, hE, hd, hs => by
    rw [f_X7_laySpots_L76_s, h36]
    by_cases h1 : M ≤ i
    · rw [if_pos (nI_le h1 (by omega))]
      exact ⟨oM, E, rfl, kK.rf _, hE, ⟨fun p hp => ⟨p, hp, rfl⟩, fun p hp => ⟨p, hp, rfl⟩, hd⟩, rfl, fun a b hab hb => hs a b hab (by omega) hb⟩
    · rw [if_neg (nI_ge (by omega) (by omega))]
      obtain ⟨oM2, E2, g1, g2, g3, g4, g5, g6⟩ := ins_L hM (show i < M by omega) (nI i) (fun (oM16 : St) => f_X7_laySpots_L76 fuel (nI i + 1) oM16) fu i oM E (by unfold fu; omega) (Nat.le_refl _) hE hd (fun a b hab hb ha hb2 => hs a b hab (by omega) (by omega)) (fun b hb hb2 => by omega)
      obtain ⟨oM', E', k1, k2, k3, k4, k5, k6⟩ := ord_L hM fuel (i + 1) oM2 E2 (by omega) (by omega) (by omega) (by rw [g5, h36]) g3 g4.2.2 (fun a b hab hb hb2 => g6 a b hab (by omega))
      rw [nI_1] at g1
      rw [nI_1]
      exact ⟨oM', E', g1.trans k1, g2.tr k2, k3, g4.tr k4, k5.trans g5, k6⟩
/-- the reference's table -/
def TM (oM oB : St) (n : Nat) : Prop := ∃ (Z : Nat) (E : Nat → Nat), tabOK (bal oB (tri n)) Z E ∧ Z ≤ 364 ∧ oM.1 36 = nI Z ∧ oM.1 37 = nI (bal oB (tri n)).length ∧ oM.1 38 = nI (olc oB (tri n)) ∧ eT oM Z E
theorem lay_spots {oB oM : St} {n : Nat} (hw : wB oB n) (hm : mB oM oB n) : ∃ oM', f_X7_laySpots oM = some oM' ∧ kK oM oM' ∧ TM oM' oB n := by
  have hn := hw.1
  have hV : (bal oB (tri n)).length ≤ 364 := Nat.le_trans (bal_len _ _) (tri_len n (by omega))
  unfold f_X7_laySpots
  obtain ⟨oM8, g1, g2, M, E, q1, q2, q3, q4, q5, q6, q7, q8⟩ := layv_A hw hm (fun (oM8 : St) => f_X7_laySpots_L76 fu 1 oM8) (oM := (sI (sI (sI oM 36 0) 37 0) 38 0)) ((((kK.rf oM).i _ (by omega)).i _ (by omega)).i _ (by omega)) ⟨0, fun _ => 0, rfl, rfl, rfl, Nat.le_refl _, fun i hi => by omega, fun i hi => by omega, fun k hk => (by cases hk), fun i j _ hj => by omega⟩
  obtain ⟨oM', E', k1, k2, k3, k4, k5, k6⟩ := ord_L (show M ≤ 364 by omega) fu 1 oM8 E (by unfold fu; omega) (Nat.le_refl _) (by omega) q1 q5 (fun a b hab hb z => q8 a b hab hb (by rw [z])) (fun a b _ _ _ => by omega)
  refine ⟨oM', g1.trans k1, g2.tr k2, M, E', ⟨fun i hi => ?_, fun k hk => ?_, k6⟩, by omega, ?_, ?_, ?_, k3⟩
  · obtain ⟨q, hq, e⟩ := k4.1 i hi
    obtain ⟨k, hk, e2⟩ := q6 q hq
    exact ⟨k, hk, e.trans e2⟩
  · obtain ⟨i, hi, e⟩ := q7 k hk
    obtain ⟨q, hq, e2⟩ := k4.2.1 i hi
    exact ⟨q, hq, e2.symm.trans e⟩
  · rw [k5, q1]
  · rw [k5, q2]
  · rw [k5, q3]
