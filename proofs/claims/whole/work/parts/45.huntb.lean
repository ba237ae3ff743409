theorem bnd_m {oB oM : St} {n : Nat} (hm : mB oM oB n) : ag 5 (oM.2.2 9) 3 = some (oB.1 6) ∧ ag 5 (oM.2.2 9) 4 = some (oB.1 7) := by
  constructor
  · rw [← hm.2.2.2.2.2.2.2.1]; exact ag_n (k := 3) (by decide) (by decide)
  · rw [← hm.2.2.2.2.2.2.2.2]; exact ag_n (k := 4) (by decide) (by decide)
set_option maxHeartbeats 4000000 in
theorem best_s {oB oM : St} {n Z k fuel : Nat} {E : Nat → Nat} (hw : wB oB n) (hm : mB oM oB n) (hZ : Z ≤ 364) (h36 : oM.1 36 = nI Z) (hE : eT oM Z E) (free : Int32) (hk : k < Z) : f_X7_bestSpot_L7 oM free (fuel + 1) (bpS oB n E free k).1 (nI (bpS oB n E free k).2) (nI k) = f_X7_bestSpot_L7 oM free fuel (bpS oB n E free (k + 1)).1 (nI (bpS oB n E free (k + 1)).2) (nI (k + 1)) := by
  obtain ⟨hnd, hrd⟩ := bnd_m hm
  obtain ⟨a1, a2, a3, a4, a5⟩ := hE k hk
  have w1 := wt_le oB n (E k) free
  have w2 := bp_le oB n E free k
  rw [f_X7_bestSpot_L7_s, h36, if_neg (nI_ge hk (by omega)), ag_n (show k < 364 by omega) (by decide), ag_n (show k < 364 by omega) (by decide), ag_n (show k < 364 by omega) (by decide), bn1_s, bn1_s, bn1_s, a1, a2, a3]
  rw [sups_m hw hm (by omega) (by omega) (by omega), bn1_s, bn1_s, bn1_s]
  have es : suS oB (E k % 32) (E k / 32 % 32) (E k / 1024 % 32) n &&& free = sfS oB n (E k) free := rfl
  rw [es, span_m hw hm (by omega) (by omega), bn1_s, size_m, bn1_s, hnd, bn1_s, hrd, bn1_s, bn1_s, bn1_s, nI_1, nI_mul, bpS_s]
  have p1 := pc_le (sfS oB n (E k) free)
  have p2 : spS oB (E k % 32) (E k / 32 % 32) n (sfS oB n (E k) free) ≤ 14 := by unfold spS; exact pc_le _
  have c1 : nI (pc (sfS oB n (E k) free)) < oB.1 6 ↔ (pc (sfS oB n (E k) free) : Int) < (oB.1 6).toInt := by rw [Int32.lt_iff_toInt_lt, nI_toInt (by omega)]
  have c2 : nI (spS oB (E k % 32) (E k / 32 % 32) n (sfS oB n (E k) free)) < oB.1 7 ↔ (spS oB (E k % 32) (E k / 32 % 32) n (sfS oB n (E k) free) : Int) < (oB.1 7).toInt := by rw [Int32.lt_iff_toInt_lt, nI_toInt (by omega)]
  by_cases d1 : (pc (sfS oB n (E k) free) : Int) < (oB.1 6).toInt
  · have e : wtS oB n (E k) free = 0 := by unfold wtS; rw [if_pos (Or.inl d1)]
    rw [if_pos (c1.mpr d1), e, if_neg (Nat.not_lt_zero _)]
  · rw [if_neg (fun z => d1 (c1.mp z))]
    by_cases d2 : (spS oB (E k % 32) (E k / 32 % 32) n (sfS oB n (E k) free) : Int) < (oB.1 7).toInt
    · have e : wtS oB n (E k) free = 0 := by unfold wtS; rw [if_pos (Or.inr d2)]
      rw [if_pos (c2.mpr d2), e, if_neg (Nat.not_lt_zero _)]
    · have e : wtS oB n (E k) free = pc (sfS oB n (E k) free) * spS oB (E k % 32) (E k / 32 % 32) n (sfS oB n (E k) free) := by unfold wtS; rw [if_neg (fun z => z.elim d1 d2)]
      rw [if_neg (fun z => d2 (c2.mp z)), ← e]
      by_cases c : (bpS oB n E free k).2 < wtS oB n (E k) free
      · rw [if_neg (nI_ge c (by omega)), if_pos c]
      · rw [if_pos (nI_le (by omega) (by omega)), if_neg c]
theorem best_m {oB oM : St} {n Z : Nat} {E : Nat → Nat} (hw : wB oB n) (hm : mB oM oB n) (hZ : Z ≤ 364) (h36 : oM.1 36 = nI Z) (hE : eT oM Z E) (free : Int32) : f_X7_bestSpot oM free = some (bpS oB n E free Z).1 := by
  obtain ⟨s, h1, h2⟩ := lpn (fun fuel k (s : Int32 × Int32) => f_X7_bestSpot_L7 oM free fuel s.1 s.2 (nI k)) (fun s => some s.1) Z (fun k s => s.1 = (bpS oB n E free k).1 ∧ s.2 = nI (bpS oB n E free k).2) (by
    intro fuel k s hk hs
    refine ⟨((bpS oB n E free (k + 1)).1, nI (bpS oB n E free (k + 1)).2), ?_, rfl, rfl⟩
    show f_X7_bestSpot_L7 oM free (fuel + 1) s.1 s.2 (nI k) = _
    rw [hs.1, hs.2]
    exact best_s hw hm hZ h36 hE free hk) (by
    intro fuel s hs
    show f_X7_bestSpot_L7 oM free (fuel + 1) s.1 s.2 (nI Z) = _
    rw [f_X7_bestSpot_L7_s, h36, if_pos (nI_le (Nat.le_refl _) (by omega))]) fu 0 (-1, 0) (by omega) (by unfold fu; omega) ⟨rfl, rfl⟩
  rw [← h2.1]
  exact h1
