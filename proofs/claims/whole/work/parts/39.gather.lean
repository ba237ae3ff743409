/-! all threes, in their order -/
def rC (a b c0 : Nat) : Nat → List (Nat × Nat × Nat)
  | 0 => []
  | m + 1 => rC a b c0 m ++ [(a, b, c0 + m)]
def rB (a n b0 : Nat) : Nat → List (Nat × Nat × Nat)
  | 0 => []
  | m + 1 => rB a n b0 m ++ rC a (b0 + m) (b0 + m + 1) (n - (b0 + m + 1))
def rA (n : Nat) : Nat → List (Nat × Nat × Nat)
  | 0 => []
  | m + 1 => rA n m ++ rB m n (m + 1) (n - (m + 1))
def tri (n : Nat) : List (Nat × Nat × Nat) := rA n n
theorem rC_len (a b c0 : Nat) : ∀ m, (rC a b c0 m).length = m
  | 0 => rfl
  | m + 1 => by show (rC a b c0 m ++ [(a, b, c0 + m)]).length = _; rw [List.length_append, rC_len a b c0 m]; rfl
theorem rB_len (a n b0 : Nat) (m : Nat) : (rB a n b0 (m + 1)).length = (rB a n b0 m).length + (n - (b0 + m + 1)) := by
  show (rB a n b0 m ++ rC a (b0 + m) (b0 + m + 1) (n - (b0 + m + 1))).length = _
  rw [List.length_append, rC_len]
theorem rB_mono (a n b0 m : Nat) : ∀ k, (rB a n b0 m).length ≤ (rB a n b0 (m + k)).length
  | 0 => Nat.le_refl _
  | k + 1 => by have := rB_mono a n b0 m k; have h := rB_len a n b0 (m + k); rw [Nat.add_assoc] at h; omega
theorem rA_len (n m : Nat) : (rA n (m + 1)).length = (rA n m).length + (rB m n (m + 1) (n - (m + 1))).length := by
  show (rA n m ++ rB m n (m + 1) (n - (m + 1))).length = _
  rw [List.length_append]
theorem rA_mono (n m : Nat) : ∀ k, (rA n m).length ≤ (rA n (m + k)).length
  | 0 => Nat.le_refl _
  | k + 1 => by have := rA_mono n m k; have h := rA_len n (m + k); rw [Nat.add_assoc] at h; omega
theorem tri_len : ∀ n, n < 15 → (tri n).length ≤ 364 := by decide +kernel
/-! the votes, and how many threes are on no line -/
def kv (oB : St) (t : Nat × Nat × Nat) : Option Nat := if vS oB t.1 t.2.1 t.2.2 then some (kS oB t.1 t.2.1 t.2.2) else none
def bal (oB : St) (l : List (Nat × Nat × Nat)) : List Nat := l.filterMap (kv oB)
def olc (oB : St) (l : List (Nat × Nat × Nat)) : Nat := l.countP (fun t => decide (cD oB t.1 t.2.1 t.2.2 ≠ 0))
theorem bal_yes {oB : St} {l : List (Nat × Nat × Nat)} {a b c : Nat} (h : vS oB a b c = true) : bal oB (l ++ [(a, b, c)]) = bal oB l ++ [kS oB a b c] := by
  unfold bal
  rw [List.filterMap_append]
  congr 1
  show List.filterMap (kv oB) [(a, b, c)] = _
  simp [kv, h]
theorem bal_no {oB : St} {l : List (Nat × Nat × Nat)} {a b c : Nat} (h : ¬ vS oB a b c = true) : bal oB (l ++ [(a, b, c)]) = bal oB l := by
  unfold bal
  rw [List.filterMap_append]
  have : List.filterMap (kv oB) [(a, b, c)] = [] := by simp [kv, h]
  rw [this, List.append_nil]
theorem olc_yes {oB : St} {l : List (Nat × Nat × Nat)} {a b c : Nat} (h : cD oB a b c ≠ 0) : olc oB (l ++ [(a, b, c)]) = olc oB l + 1 := by
  unfold olc
  rw [List.countP_append]
  congr 1
  simp [h]
theorem olc_no {oB : St} {l : List (Nat × Nat × Nat)} {a b c : Nat} (h : cD oB a b c = 0) : olc oB (l ++ [(a, b, c)]) = olc oB l := by
  unfold olc
  rw [List.countP_append]
  simp [h]
theorem bal_len (oB : St) (l : List (Nat × Nat × Nat)) : (bal oB l).length ≤ l.length := List.length_filterMap_le _ _
theorem vS_D {oB : St} {a b c : Nat} (h : cD oB a b c = 0) : ¬ vS oB a b c = true := by
  unfold vS
  simp [h]
theorem kS_lt {oB : St} {n a b c : Nat} (hw : wB oB n) (h : vS oB a b c = true) : kS oB a b c < 32768 := by
  obtain ⟨-, -, -, -, -, -, -, h8, h9, h10, -, -⟩ := vS_e hw h
  unfold kS
  omega
/-! the class gathers them -/
def QC (oB : St) (l : List (Nat × Nat × Nat)) (oT : St) : Prop := oT.1 5 = nI (bal oB l).length ∧ oT.1 6 = nI (olc oB l) ∧ (∀ k, k < 32768 → ctI (oT.2.2 7) (bal oB l).length (nI k) = (bal oB l).count k) ∧ ∀ j, j < (bal oB l).length → ∃ k, k < 32768 ∧ oT.2.2 7 j = nI k
theorem ctI_push (f : Nat → Int32) (V : Nat) (x v : Int32) : ctI (upd f V x) (V + 1) v = ctI f V v + if x = v then 1 else 0 := by
  rw [ctI_succ, upd_e, if_pos rfl, ctI_cong v (fun j hj => by rw [upd_e, if_neg (by omega)])]
set_option maxHeartbeats 4000000 in
theorem gath_1 {oB : St} {n a b c : Nat} (hw : wB oB n) (ha : a < n) (hb : b < n) (hc : c < n) {l : List (Nat × Nat × Nat)} (hl : l.length < 364) {oT : St} (hq : QC oB l oT) (oC : St) : ∃ oT' oC', f_X5_gatherBallot oT oB oC (nI a) (nI b) (nI c) = some (oT', oC') ∧ QC oB (l ++ [(a, b, c)]) oT' := by
  obtain ⟨d, x, y, f1, f2, f3, f4⟩ := lay_c hw ha hb hc oC
  have hC := isC_lay oC f2 f3 f4
  unfold f_X5_gatherBallot
  rw [f1, bn1_s]
  generalize sI (sI (sI (sI (sI (sI oC 1 (nI a)) 2 (nI b)) 3 (nI c)) 4 d) 5 x) 6 y = oC2 at hC ⊢
  rw [isLine_c hC, bn1_s]
  obtain ⟨q1, q2, q3, q4⟩ := hq
  by_cases hD : cD oB a b c = 0
  · rw [if_pos hD, if_neg (by decide)]
    refine ⟨_, _, rfl, ?_⟩
    unfold QC
    rw [bal_no (vS_D hD), olc_no hD]
    exact ⟨q1, q2, q3, q4⟩
  · rw [if_neg hD, if_pos rfl, vote_c hw ha hb hc hC hD, bn1_s]
    by_cases hv : vS oB a b c = true
    · have hk := kS_lt hw hv
      have hlen := bal_len oB l
      rw [if_pos hv, if_neg (by rw [← Int32.toInt_inj, nI_toInt (by omega)]; show ¬ ((kS oB a b c : Nat) : Int) = -1; omega), q1, if_neg (show ¬ (364 : Int32) ≤ nI (bal oB l).length from nI_ge (b := 364) (by omega) (by decide)), aw_n (show (bal oB l).length < 364 by omega) (by decide), bn1_s]
      refine ⟨_, _, rfl, ?_⟩
      unfold QC
      rw [bal_yes hv, olc_yes hD, List.length_append]
      refine ⟨?_, ?_, ?_, ?_⟩
      · show oT.1 5 + 1 = _
        rw [q1, nI_1]; rfl
      · show oT.1 6 + 1 = _
        rw [q2, nI_1]
      · intro k hk2
        show ctI (upd (oT.2.2 7) (bal oB l).length (nI (kS oB a b c))) ((bal oB l).length + 1) (nI k) = _
        rw [ctI_push, q3 k hk2, List.count_append, List.count_singleton]
        congr 1
        by_cases e : kS oB a b c = k
        · rw [if_pos (by rw [e]), if_pos (by simp [e])]
        · rw [if_neg (fun z => e ((nI_eq (by omega) (by omega)).mp z)), if_neg (by simp [e])]
      · intro j hj
        show ∃ k, k < 32768 ∧ upd (oT.2.2 7) (bal oB l).length (nI (kS oB a b c)) j = nI k
        rw [upd_e]
        by_cases e : j = (bal oB l).length
        · rw [if_pos e]; exact ⟨_, hk, rfl⟩
        · rw [if_neg e]
          have hj : j < (bal oB l).length + 1 := hj
          exact q4 j (by omega)
    · rw [if_neg hv, if_pos rfl]
      refine ⟨_, _, rfl, ?_⟩
      unfold QC
      rw [bal_no hv, olc_yes hD]
      refine ⟨q1, ?_, q3, q4⟩
      show oT.1 6 + 1 = _
      rw [q2, nI_1]
theorem gath_C {oB : St} {n a b : Nat} (hw : wB oB n) (ha : a < n) (hb : b < n) (K : St → St → Option (St × St)) {l : List (Nat × Nat × Nat)} (hl : l.length + (n - (b + 1)) ≤ 364) {oT : St} (hq : QC oB l oT) (oC : St) : ∃ oT' oC', f_X5_gatherBallots_L42 oB (nI a) (nI b) K fu (nI (b + 1)) oT oC = K oT' oC' ∧ QC oB (l ++ rC a b (b + 1) (n - (b + 1))) oT' := by
  have hn := hw.1
  obtain ⟨s, h1, h2⟩ := lpn (fun fuel k (s : St × St) => f_X5_gatherBallots_L42 oB (nI a) (nI b) K fuel (nI k) s.1 s.2) (fun s => K s.1 s.2) n (fun k s => b + 1 ≤ k ∧ QC oB (l ++ rC a b (b + 1) (k - (b + 1))) s.1) (by
    intro fuel k s hk hs
    obtain ⟨hs0, hs⟩ := hs
    obtain ⟨oT', oC', g1, g2⟩ := gath_1 hw ha hb hk (by rw [List.length_append, rC_len]; omega) hs s.2
    refine ⟨(oT', oC'), ?_, by omega, ?_⟩
    · show f_X5_gatherBallots_L42 oB (nI a) (nI b) K (fuel + 1) (nI k) s.1 s.2 = f_X5_gatherBallots_L42 oB (nI a) (nI b) K fuel (nI (k + 1)) oT' oC'
      rw [f_X5_gatherBallots_L42_s, hw.2.1, if_neg (nI_ge hk (by omega)), g1, bn2_s, nI_1]
    · have e : k + 1 - (b + 1) = k - (b + 1) + 1 := by omega
      have e2 : b + 1 + (k - (b + 1)) = k := by omega
      rw [e]
      show QC oB (l ++ (rC a b (b + 1) (k - (b + 1)) ++ [(a, b, b + 1 + (k - (b + 1)))])) oT'
      rw [e2, ← List.append_assoc]
      exact g2) (by
    intro fuel s hs
    show f_X5_gatherBallots_L42 oB (nI a) (nI b) K (fuel + 1) (nI n) s.1 s.2 = _
    rw [f_X5_gatherBallots_L42_s, hw.2.1, if_pos (nI_le (Nat.le_refl _) (by omega))]) fu (b + 1) (oT, oC) (by omega) (by unfold fu; omega) ⟨by omega, by
      show QC oB (l ++ rC a b (b + 1) (b + 1 - (b + 1))) oT
      rw [Nat.sub_self]
      show QC oB (l ++ []) oT
      rw [List.append_nil]
      exact hq⟩
  exact ⟨s.1, s.2, h1, h2.2⟩
theorem gath_B {oB : St} {n a : Nat} (hw : wB oB n) (ha : a < n) (K : St → St → Option (St × St)) {l : List (Nat × Nat × Nat)} (hl : l.length + (rB a n (a + 1) (n - (a + 1))).length ≤ 364) {oT : St} (hq : QC oB l oT) (oC : St) : ∃ oT' oC', f_X5_gatherBallots_L27 oB (nI a) K fu (nI (a + 1)) oT oC = K oT' oC' ∧ QC oB (l ++ rB a n (a + 1) (n - (a + 1))) oT' := by
  have hn := hw.1
  obtain ⟨s, h1, h2⟩ := lpn (fun fuel k (s : St × St) => f_X5_gatherBallots_L27 oB (nI a) K fuel (nI k) s.1 s.2) (fun s => K s.1 s.2) n (fun k s => a + 1 ≤ k ∧ QC oB (l ++ rB a n (a + 1) (k - (a + 1))) s.1) (by
    intro fuel k s hk hs
    obtain ⟨hs0, hs⟩ := hs
    have e : k + 1 - (a + 1) = k - (a + 1) + 1 := by omega
    have e2 : a + 1 + (k - (a + 1)) = k := by omega
    have hm := rB_mono a n (a + 1) (k - (a + 1) + 1) (n - (a + 1) - (k - (a + 1) + 1))
    rw [show k - (a + 1) + 1 + (n - (a + 1) - (k - (a + 1) + 1)) = n - (a + 1) by omega, rB_len, e2] at hm
    obtain ⟨oT', oC', g1, g2⟩ := gath_C (b := k) hw ha hk (fun (oT7 : St) (oC8 : St) => f_X5_gatherBallots_L27 oB (nI a) K fuel (nI k + 1) oT7 oC8) (l := l ++ rB a n (a + 1) (k - (a + 1))) (by rw [List.length_append]; omega) hs s.2
    refine ⟨(oT', oC'), ?_, by omega, ?_⟩
    · show f_X5_gatherBallots_L27 oB (nI a) K (fuel + 1) (nI k) s.1 s.2 = f_X5_gatherBallots_L27 oB (nI a) K fuel (nI (k + 1)) oT' oC'
      rw [f_X5_gatherBallots_L27_s, hw.2.1, if_neg (nI_ge hk (by omega))]
      rw [nI_1 k] at g1 ⊢
      exact g1
    · rw [e]
      show QC oB (l ++ (rB a n (a + 1) (k - (a + 1)) ++ rC a (a + 1 + (k - (a + 1))) (a + 1 + (k - (a + 1)) + 1) (n - (a + 1 + (k - (a + 1)) + 1)))) oT'
      rw [e2, ← List.append_assoc]
      exact g2) (by
    intro fuel s hs
    show f_X5_gatherBallots_L27 oB (nI a) K (fuel + 1) (nI n) s.1 s.2 = _
    rw [f_X5_gatherBallots_L27_s, hw.2.1, if_pos (nI_le (Nat.le_refl _) (by omega))]) fu (a + 1) (oT, oC) (by omega) (by unfold fu; omega) ⟨by omega, by
      show QC oB (l ++ rB a n (a + 1) (a + 1 - (a + 1))) oT
      rw [Nat.sub_self]
      show QC oB (l ++ []) oT
      rw [List.append_nil]
      exact hq⟩
  exact ⟨s.1, s.2, h1, h2.2⟩
theorem gath_A {oB : St} {n : Nat} (hw : wB oB n) (oT oC : St) : ∃ oT' oC', f_X5_gatherBallots oT oB oC = some (oT', oC') ∧ QC oB (tri n) oT' := by
  have hn := hw.1
  unfold f_X5_gatherBallots
  obtain ⟨s, h1, h2⟩ := lpn (fun fuel k (s : St × St) => f_X5_gatherBallots_L12 oB fuel (nI k) s.1 s.2) (fun s => some (s.1, s.2)) n (fun k s => QC oB (rA n k) s.1) (by
    intro fuel k s hk hs
    have hm := rA_mono n (k + 1) (n - (k + 1))
    rw [show k + 1 + (n - (k + 1)) = n by omega, rA_len] at hm
    have ht : (rA n n).length ≤ 364 := tri_len n (by omega)
    obtain ⟨oT', oC', g1, g2⟩ := gath_B (a := k) hw hk (fun (oT9 : St) (oC10 : St) => f_X5_gatherBallots_L12 oB fuel (nI k + 1) oT9 oC10) (l := rA n k) (by omega) hs s.2
    refine ⟨(oT', oC'), ?_, g2⟩
    show f_X5_gatherBallots_L12 oB (fuel + 1) (nI k) s.1 s.2 = f_X5_gatherBallots_L12 oB fuel (nI (k + 1)) oT' oC'
    rw [f_X5_gatherBallots_L12_s, hw.2.1, if_neg (nI_ge hk (by omega))]
    rw [nI_1 k] at g1 ⊢
    exact g1) (by
    intro fuel s hs
    show f_X5_gatherBallots_L12 oB (fuel + 1) (nI n) s.1 s.2 = _
    rw [f_X5_gatherBallots_L12_s, hw.2.1, if_pos (nI_le (Nat.le_refl _) (by omega))]) fu 0 ((sI (sI oT 5 0) 6 0), oC) (by omega) (by unfold fu; omega) ⟨rfl, rfl, fun k _ => rfl, fun j hj => by cases hj⟩
  exact ⟨s.1, s.2, h1, h2⟩
