/-! both tables are one -/
theorem tabs {oT oM oB : St} {n : Nat} (hT : TB oT oB n) (hM : TM oM oB n) : ∃ (Z : Nat) (E : Nat → Nat), tabOK (bal oB (tri n)) Z E ∧ Z ≤ 364 ∧ (oT.1 4 = nI Z ∧ oT.1 5 = nI (bal oB (tri n)).length ∧ oT.1 6 = nI (olc oB (tri n)) ∧ ∀ i, i < Z → oT.2.2 8 i = nI (E i) ∧ oT.2.2 9 i = suS oB (E i % 32) (E i / 32 % 32) (E i / 1024 % 32) n) ∧ (oM.1 36 = nI Z ∧ oM.1 37 = nI (bal oB (tri n)).length ∧ oM.1 38 = nI (olc oB (tri n)) ∧ eT oM Z E) := by
  obtain ⟨Z, E, t1, t2, t3⟩ := hT
  obtain ⟨Z', E', m1, m2, m3, m4, m5, m6⟩ := hM
  obtain ⟨e1, e2⟩ := tab_one t1 m1
  subst e1
  refine ⟨Z, E, t1, t2, t3, m3, m4, m5, ?_⟩
  intro i hi
  have := m6 i hi
  rw [← e2 i hi] at this
  exact this
theorem votesAt_n {oT : St} {i e : Nat} (hi : i < 364) (h : oT.2.2 8 i = nI e) (he : e / 32768 ≤ 364) (he2 : e < 2 ^ 31) : f_X5_votesAt oT (nI i) = some (nI (364 - e / 32768)) := by
  unfold f_X5_votesAt
  rw [ag_n hi (by decide), bn1_s, h, show (15 : Int32) = nI 15 from rfl, nI_shr he2 (by omega), show (364 : Int32) = nI 364 from rfl, nI_sub he]
/-- what is told of a spot -/
def tlS (oB : St) (n e : Nat) (w : Int32) : Int32 :=
  if w = 0 then nI (e % 32) else if w = 1 then nI (e / 32 % 32) else if w = 2 then nI (e / 1024 % 32) else if w = 3 then nI (364 - e / 32768)
  else if w = 4 then nI (pc (suS oB (e % 32) (e / 32 % 32) (e / 1024 % 32) n)) else if w = 5 then nI (spS oB (e % 32) (e / 32 % 32) n (suS oB (e % 32) (e / 32 % 32) (e / 1024 % 32) n))
  else if w = 6 then suS oB (e % 32) (e / 32 % 32) (e / 1024 % 32) n else -102
theorem s14_su (oB : St) {cx cy r n : Nat} (h : n ≤ 14) : s14 (suS oB cx cy r n) := s14_bs _ h
set_option maxHeartbeats 4000000 in
theorem tell_c {oT oB oG : St} {n i e : Nat} (hw : wB oB n) (hi : i < 364) (he : e / 32768 ≤ 364) (he2 : e < 11960320) (h : oT.2.2 8 i = nI e) (h9 : oT.2.2 9 i = suS oB (e % 32) (e / 32 % 32) (e / 1024 % 32) n) (w : Int32) : ∃ oG', f_X5_tell oT oB oG (nI i) w = some (tlS oB n e w, oG') := by
  have hn := hw.1
  unfold f_X5_tell tlS
  obtain ⟨oG', g1, g2⟩ := from_c oG (k := e % 32768) (by omega)
  rw [show e % 32768 % 32 = e % 32 by omega, show e % 32768 / 32 % 32 = e / 32 % 32 by omega, show e % 32768 / 1024 % 32 = e / 1024 % 32 by omega] at g2
  rw [keyAt_n hi h, bn1_s, keyX_n, keyY_n (show e % 32768 < 2 ^ 31 by omega), keyR_n (show e % 32768 < 2 ^ 31 by omega), votesAt_n hi h he (by omega), ag_n hi (by decide), h9, g1]
  simp only [bn1_s]
  rw [bc_c (s14_su oB hn), span_c hw g2 (by omega) (by omega)]
  rw [show e % 32768 % 32 = e % 32 by omega, show e % 32768 / 32 % 32 = e / 32 % 32 by omega, show e % 32768 / 1024 % 32 = e / 1024 % 32 by omega]
  simp only [bn1_s]
  by_cases c0 : w = 0
  · rw [if_pos c0, if_pos c0]; exact ⟨_, rfl⟩
  · rw [if_neg c0, if_neg c0]
    by_cases c1 : w = 1
    · rw [if_pos c1, if_pos c1]; exact ⟨_, rfl⟩
    · rw [if_neg c1, if_neg c1]
      by_cases c2 : w = 2
      · rw [if_pos c2, if_pos c2]; exact ⟨_, rfl⟩
      · rw [if_neg c2, if_neg c2]
        by_cases c3 : w = 3
        · rw [if_pos c3, if_pos c3]; exact ⟨_, rfl⟩
        · rw [if_neg c3, if_neg c3]
          by_cases c4 : w = 4
          · rw [if_pos c4, if_pos c4]; exact ⟨_, rfl⟩
          · rw [if_neg c4, if_neg c4]
            by_cases c5 : w = 5
            · rw [if_pos c5, if_pos c5]; exact ⟨_, rfl⟩
            · rw [if_neg c5, if_neg c5]
              by_cases c6 : w = 6
              · rw [if_pos c6, if_pos c6]; exact ⟨_, rfl⟩
              · rw [if_neg c6, if_neg c6]; exact ⟨_, rfl⟩
theorem w6 {w : Int32} (h : (0 : Int) ≤ w.toInt ∧ w.toInt ≤ 6) (c0 : ¬ w = 0) (c1 : ¬ w = 1) (c2 : ¬ w = 2) (c3 : ¬ w = 3) (c4 : ¬ w = 4) (c5 : ¬ w = 5) : w = 6 := by
  rw [← Int32.toInt_inj] at c0 c1 c2 c3 c4 c5 ⊢
  have d0 : ¬ w.toInt = 0 := c0
  have d1 : ¬ w.toInt = 1 := c1
  have d2 : ¬ w.toInt = 2 := c2
  have d3 : ¬ w.toInt = 3 := c3
  have d4 : ¬ w.toInt = 4 := c4
  have d5 : ¬ w.toInt = 5 := c5
  show w.toInt = 6
  omega
set_option maxHeartbeats 4000000 in
theorem tell_m {oM oB : St} {n Z i : Nat} {E : Nat → Nat} (hw : wB oB n) (hm : mB oM oB n) (hZ : Z ≤ 364) (hE : eT oM Z E) (hi : i < Z) (w : Int32) (hw6 : (0 : Int) ≤ w.toInt ∧ w.toInt ≤ 6) : f_X7_spotNow oM (nI i) w = some (tlS oB n (E i) w) := by
  obtain ⟨a1, a2, a3, a4, a5⟩ := hE i hi
  unfold f_X7_spotNow tlS
  simp only [ag_n (show i < 364 by omega) (by decide : 364 < 2 ^ 31), bn1_s, a1, a2, a3, a4]
  rw [sups_m hw hm (by omega) (by omega) (by omega), bn1_s, size_m, bn1_s, span_m hw hm (by omega) (by omega), bn1_s]
  by_cases c0 : w = 0
  · rw [if_pos c0, if_pos c0]
  · rw [if_neg c0, if_neg c0]
    by_cases c1 : w = 1
    · rw [if_pos c1, if_pos c1]
    · rw [if_neg c1, if_neg c1]
      by_cases c2 : w = 2
      · rw [if_pos c2, if_pos c2]
      · rw [if_neg c2, if_neg c2]
        by_cases c3 : w = 3
        · rw [if_pos c3, if_pos c3]
        · rw [if_neg c3, if_neg c3]
          by_cases c4 : w = 4
          · rw [if_pos c4, if_pos c4]
          · rw [if_neg c4, if_neg c4]
            by_cases c5 : w = 5
            · rw [if_pos c5, if_pos c5]
            · rw [if_neg c5, if_neg c5, if_pos (w6 hw6 c0 c1 c2 c3 c4 c5)]
theorem tlS_out {oB : St} {n e : Nat} {w : Int32} (h : ¬ ((0 : Int) ≤ w.toInt ∧ w.toInt ≤ 6)) : tlS oB n e w = -102 := by
  unfold tlS
  have k : ∀ q : Int32, (0 : Int) ≤ q.toInt ∧ q.toInt ≤ 6 → ¬ w = q := fun q hq z => h (by rw [z]; exact hq)
  rw [if_neg (k 0 (by decide)), if_neg (k 1 (by decide)), if_neg (k 2 (by decide)), if_neg (k 3 (by decide)), if_neg (k 4 (by decide)), if_neg (k 5 (by decide)), if_neg (k 6 (by decide))]
def fT (oT oB : St) (n : Nat) : Prop := oT.1 3 = 0 ∨ TB oT oB n
set_option maxHeartbeats 4000000 in
theorem op_spot {oB oM oT : St} {n : Nat} (hw : wB oB n) (hm : mB oM oB n) (hT : fT oT oB n) (oC oG : St) (v1 v2 : Int32) : ∃ r oT' oC' oG' oM', f_X6_spot oT oB oC oG v1 v2 = some (r, oT', oC', oG') ∧ f_X7_spot oM v1 v2 = some (r, oM') ∧ kM oM oM' ∧ fT oT' oB n := by
  obtain ⟨oT1, oC1, oG1, g1, g2⟩ := refresh_c hw hT oC oG
  obtain ⟨oM1, k1, k2, k3⟩ := lay_spots hw hm
  obtain ⟨Z, E, t1, t2, ⟨t3, t4, t5, t6⟩, m1, m2, m3, m4⟩ := tabs g2 k3
  have hm1 := hm.k k2.1
  unfold f_X6_spot f_X7_spot
  rw [g1, bn3_s, isSheet_m hm, bn1_s, ite01, k1, bn1_s, within_m, bn1_s, ite10, within_m, bn1_s, ite10, t3, m1]
  have e0 : bI (nI Z) Z 364 := bnI t2 (by decide)
  have e : (nI Z - 1).toInt = (Z : Int) - 1 := (e0.sub b1 (by decide)).1
  rw [e]
  have q1 : v1 < 0 ↔ v1.toInt < 0 := by rw [Int32.lt_iff_toInt_lt]; rfl
  have q2 : v1 < nI Z ↔ v1.toInt < Z := by rw [Int32.lt_iff_toInt_lt, nI_toInt (by omega)]
  by_cases h0 : (oB.1 0).toInt ≤ 0
  · have hn0 : n = 0 := hw.2.2.2.2.2.2.2.2.2.2.1 (by have := hw.2.2.1; omega)
    subst hn0
    have hZ0 : Z = 0 := by
      rcases Nat.eq_zero_or_pos Z with q | q
      · exact q
      · obtain ⟨k, hk, -⟩ := t1.1 0 q
        cases hk
    subst hZ0
    rw [if_pos h0]
    by_cases c1 : v1 < 0
    · rw [if_pos c1]; exact ⟨_, _, _, _, _, rfl, rfl, kM.rf _, Or.inr g2⟩
    · rw [if_neg c1, if_neg (by rw [q2]; rw [q1] at c1; omega)]; exact ⟨_, _, _, _, _, rfl, rfl, kM.rf _, Or.inr g2⟩
  · rw [if_neg h0]
    by_cases c1 : v1 < 0
    · rw [if_pos c1, if_neg (show ¬ (Int32.toInt 0 ≤ v1.toInt ∧ v1.toInt ≤ (Z : Int) - 1) by intro z; have z1 : (0 : Int) ≤ v1.toInt := z.1; rw [q1] at c1; omega)]
      exact ⟨_, _, _, _, _, rfl, rfl, k2.1, Or.inr g2⟩
    · rw [if_neg c1]
      by_cases c2 : v1 < nI Z
      · have hv : (0 : Int) ≤ v1.toInt ∧ v1.toInt ≤ (Z : Int) - 1 := by rw [q1] at c1; rw [q2] at c2; omega
        rw [if_pos c2, if_pos (show Int32.toInt 0 ≤ v1.toInt ∧ v1.toInt ≤ (Z : Int) - 1 from hv)]
        obtain ⟨i, hi, rfl⟩ := isJ_t (n := Z) (v := v1) (by unfold isJ; rw [decide_eq_true hv.1, decide_eq_true (by omega)]; rfl)
        obtain ⟨b1', b2'⟩ := tab_b hw t1 hi
        obtain ⟨oG', w1⟩ := tell_c (oT := oT1) (oG := oG1) hw (show i < 364 by omega) b2' b1' (t6 i hi).1 (t6 i hi).2 v2
        rw [w1, bn2_s]
        by_cases c3 : (0 : Int) ≤ v2.toInt ∧ v2.toInt ≤ 6
        · rw [if_pos (show Int32.toInt 0 ≤ v2.toInt ∧ v2.toInt ≤ Int32.toInt 6 from c3), tell_m hw hm1 t2 m4 hi v2 c3]
          exact ⟨_, _, _, _, _, rfl, rfl, k2.1, Or.inr g2⟩
        · rw [if_neg (show ¬ (Int32.toInt 0 ≤ v2.toInt ∧ v2.toInt ≤ Int32.toInt 6) from c3), tlS_out c3]
          exact ⟨_, _, _, _, _, rfl, rfl, k2.1, Or.inr g2⟩
      · rw [if_neg c2, if_neg (show ¬ (Int32.toInt 0 ≤ v1.toInt ∧ v1.toInt ≤ (Z : Int) - 1) by intro z; rw [q2] at c2; omega)]
        exact ⟨_, _, _, _, _, rfl, rfl, k2.1, Or.inr g2⟩
/-! votes for a spot -/
def mt (E : Nat → Nat) (v1 v2 v3 : Int32) (i : Nat) : Prop := nI (E i % 32) = v1 ∧ nI (E i / 32 % 32) = v2 ∧ nI (E i / 1024 % 32) = v3
theorem mt_one {oB : St} {n Z : Nat} {E : Nat → Nat} {l : List (Nat × Nat × Nat)} (hw : wB oB n) (h : tabOK (bal oB l) Z E) {v1 v2 v3 : Int32} {i j : Nat} (hi : i < Z) (hj : j < Z) (h1 : mt E v1 v2 v3 i) (h2 : mt E v1 v2 v3 j) : i = j := by
  have a1 := (nI_eq (by omega) (by omega)).mp (h1.1.trans h2.1.symm)
  have a2 := (nI_eq (by omega) (by omega)).mp (h1.2.1.trans h2.2.1.symm)
  have a3 := (nI_eq (by omega) (by omega)).mp (h1.2.2.trans h2.2.2.symm)
  obtain ⟨k, hk, e⟩ := h.1 i hi
  obtain ⟨k', hk', e'⟩ := h.1 j hj
  have b1 := enc_mod (c := (bal oB l).count k) (bal_lt hw hk)
  have b2 := enc_mod (c := (bal oB l).count k') (bal_lt hw hk')
  have ek : k = k' := by
    rw [← e] at b1
    rw [← e'] at b2
    omega
  subst ek
  have ee : E i = E j := e.trans e'.symm
  rcases Nat.lt_trichotomy i j with q | q | q
  · have := h.2.2 i j q hj; omega
  · exact q
  · have := h.2.2 j i q hi; omega
set_option maxHeartbeats 4000000 in
theorem vf_c {oT : St} {Z : Nat} {E : Nat → Nat} (hZ : Z ≤ 364) (h4 : oT.1 4 = nI Z) (h8 : ∀ i, i < Z → oT.2.2 8 i = nI (E i)) (hb : ∀ i, i < Z → E i < 11960320 ∧ E i / 32768 ≤ 364) (v1 v2 v3 : Int32) :
    ∀ (fuel i : Nat), Z - i < fuel → i ≤ Z → ((∀ j, i ≤ j → j < Z → ¬ mt E v1 v2 v3 j) → f_X5_votesFor_L3 oT v1 v2 v3 fuel (nI i) = some 0) ∧ ∀ p, i ≤ p → p < Z → (∀ j, j < p → ¬ mt E v1 v2 v3 j) → mt E v1 v2 v3 p → f_X5_votesFor_L3 oT v1 v2 v3 fuel (nI i) = some (nI (364 - E p / 32768))
  | 0, i, h, _ => by omega
  | fuel + 1, i, hf, hi => by
    rw [f_X5_votesFor_L3_s, h4]
    by_cases h1 : Z ≤ i
    · rw [if_pos (nI_le h1 (by omega))]
      exact ⟨fun _ => rfl, fun p hp hp2 => by omega⟩
    · obtain ⟨b1', b2'⟩ := hb i (by omega)
      have ih := vf_c hZ h4 h8 hb v1 v2 v3 fuel (i + 1) (by omega) (by omega)
      rw [if_neg (nI_ge (by omega) (by omega)), keyAt_n (show i < 364 by omega) (h8 i (by omega)), bn1_s, keyX_n, keyY_n (by omega), keyR_n (by omega), votesAt_n (show i < 364 by omega) (h8 i (by omega)) b2' (by omega)]
      simp only [bn1_s, nI_1]
      rw [show E i % 32768 % 32 = E i % 32 by omega, show E i % 32768 / 32 % 32 = E i / 32 % 32 by omega, show E i % 32768 / 1024 % 32 = E i / 1024 % 32 by omega]
      by_cases hm : mt E v1 v2 v3 i
      · rw [if_pos hm.1, if_pos hm.2.1, if_pos hm.2.2]
        refine ⟨fun h => absurd hm (h i (Nat.le_refl _) (by omega)), fun p hp hp2 hn _ => ?_⟩
        rcases Nat.lt_or_ge i p with q | q
        · exact absurd hm (hn i q)
        · rw [show i = p by omega]
      · have go9 : ((∀ j, i ≤ j → j < Z → ¬ mt E v1 v2 v3 j) → f_X5_votesFor_L3 oT v1 v2 v3 fuel (nI (i + 1)) = some 0) ∧ ∀ p, i ≤ p → p < Z → (∀ j, j < p → ¬ mt E v1 v2 v3 j) → mt E v1 v2 v3 p → f_X5_votesFor_L3 oT v1 v2 v3 fuel (nI (i + 1)) = some (nI (364 - E p / 32768)) := by
          refine ⟨fun h => ih.1 (fun j h2 h3 => h j (by omega) h3), fun p hp hp2 hn hmp => ?_⟩
          have : i ≠ p := fun z => hm (z ▸ hmp)
          exact ih.2 p (by omega) hp2 hn hmp
        by_cases c1 : nI (E i % 32) = v1
        · rw [if_pos c1]
          by_cases c2 : nI (E i / 32 % 32) = v2
          · rw [if_pos c2, if_neg (fun z => hm ⟨c1, c2, z⟩)]; exact go9
          · rw [if_neg c2]; exact go9
        · rw [if_neg c1]; exact go9
set_option maxHeartbeats 4000000 in
theorem vf_m {oM : St} {Z : Nat} {E : Nat → Nat} (hZ : Z ≤ 364) (h36 : oM.1 36 = nI Z) (hE : eT oM Z E) (v1 v2 v3 : Int32) :
    ∀ (fuel i : Nat) (s : Int32), Z - i < fuel → i ≤ Z → ((∀ j, i ≤ j → j < Z → ¬ mt E v1 v2 v3 j) → f_X7_votes_L20 oM v1 v2 v3 fuel s (nI i) = some (s, oM)) ∧ ∀ p, i ≤ p → p < Z → (∀ j, j < Z → j ≠ p → ¬ mt E v1 v2 v3 j) → mt E v1 v2 v3 p → f_X7_votes_L20 oM v1 v2 v3 fuel s (nI i) = some (nI (364 - E p / 32768), oM)
  | 0, i, s, h, _ => by omega
  | fuel + 1, i, s, hf, hi => by
    rw [f_X7_votes_L20_s, h36]
    by_cases h1 : Z ≤ i
    · rw [if_pos (nI_le h1 (by omega))]
      exact ⟨fun _ => rfl, fun p hp hp2 => by omega⟩
    · obtain ⟨a1, a2, a3, a4, a5⟩ := hE i (by omega)
      have ih := fun s => vf_m hZ h36 hE v1 v2 v3 fuel (i + 1) s (by omega) (by omega)
      rw [if_neg (nI_ge (by omega) (by omega))]
      simp only [ag_n (show i < 364 by omega) (by decide : 364 < 2 ^ 31), bn1_s, a1, a2, a3, a4, nI_1]
      by_cases hm : mt E v1 v2 v3 i
      · rw [if_pos hm.1, if_pos hm.2.1, if_pos hm.2.2]
        refine ⟨fun h => absurd hm (h i (Nat.le_refl _) (by omega)), fun p hp hp2 hn _ => ?_⟩
        by_cases e : i = p
        · subst e
          exact (ih _).1 (fun j h2 h3 => hn j h3 (by omega))
        · exact absurd hm (hn i (by omega) e)
      · have go9 : ((∀ j, i ≤ j → j < Z → ¬ mt E v1 v2 v3 j) → f_X7_votes_L20 oM v1 v2 v3 fuel s (nI (i + 1)) = some (s, oM)) ∧ ∀ p, i ≤ p → p < Z → (∀ j, j < Z → j ≠ p → ¬ mt E v1 v2 v3 j) → mt E v1 v2 v3 p → f_X7_votes_L20 oM v1 v2 v3 fuel s (nI (i + 1)) = some (nI (364 - E p / 32768), oM) := by
          refine ⟨fun h => (ih s).1 (fun j h2 h3 => h j (by omega) h3), fun p hp hp2 hn hmp => ?_⟩
          have : i ≠ p := fun z => hm (z ▸ hmp)
          exact (ih s).2 p (by omega) hp2 hn hmp
        by_cases c1 : nI (E i % 32) = v1
        · rw [if_pos c1]
          by_cases c2 : nI (E i / 32 % 32) = v2
          · rw [if_pos c2, if_neg (fun z => hm ⟨c1, c2, z⟩)]; exact go9
          · rw [if_neg c2]; exact go9
        · rw [if_neg c1]; exact go9
set_option maxHeartbeats 4000000 in
theorem op_votes {oB oM oT : St} {n : Nat} (hw : wB oB n) (hm : mB oM oB n) (hT : fT oT oB n) (oC oG : St) (v1 v2 v3 : Int32) : ∃ r oT' oC' oG' oM', f_X6_votes oT oB oC oG v1 v2 v3 = some (r, oT', oC', oG') ∧ f_X7_votes oM v1 v2 v3 = some (r, oM') ∧ kM oM oM' ∧ fT oT' oB n := by
  unfold f_X6_votes f_X7_votes
  rw [isThere_c, bn1_s, ite01, isSheet_m hm, bn1_s, ite01]
  by_cases h0 : (oB.1 0).toInt ≤ 0
  · rw [if_pos h0, if_pos h0]
    exact ⟨_, _, _, _, _, rfl, rfl, kM.rf _, hT⟩
  · obtain ⟨oT1, oC1, oG1, g1, g2⟩ := refresh_c hw hT oC oG
    obtain ⟨oM1, k1, k2, k3⟩ := lay_spots hw hm
    obtain ⟨Z, E, t1, t2, ⟨t3, t4, t5, t6⟩, m1, m2, m3, m4⟩ := tabs g2 k3
    rw [if_neg h0, if_neg h0, g1, bn3_s, k1, bn1_s]
    unfold f_X5_votesFor
    have hc := vf_c t2 t3 (fun i hi => (t6 i hi).1) (fun i hi => tab_b hw t1 hi) v1 v2 v3 fu 0 (by unfold fu; omega) (Nat.zero_le _)
    have hmm := vf_m t2 m1 m4 v1 v2 v3 fu 0 0 (by unfold fu; omega) (Nat.zero_le _)
    by_cases hex : ∃ p, p < Z ∧ mt E v1 v2 v3 p
    · obtain ⟨p, hp, hmp⟩ := hex
      have a := hc.2 p (Nat.zero_le _) hp (fun j hj z => by have := mt_one hw t1 (show j < Z by omega) hp z hmp; omega) hmp
      have b := hmm.2 p (Nat.zero_le _) hp (fun j hj hne z => hne (mt_one hw t1 hj hp z hmp)) hmp
      rw [show (0 : Int32) = nI 0 from rfl, a, bn1_s]
      exact ⟨_, _, _, _, _, rfl, b, k2.1, Or.inr g2⟩
    · have a := hc.1 (fun j _ hj z => hex ⟨j, hj, z⟩)
      have b := hmm.1 (fun j _ hj z => hex ⟨j, hj, z⟩)
      rw [show (0 : Int32) = nI 0 from rfl, a, bn1_s]
      exact ⟨_, _, _, _, _, rfl, b, k2.1, Or.inr g2⟩
/-! how many have the most -/
set_option maxHeartbeats 4000000 in
theorem fm_c {oT : St} {Z : Nat} {E : Nat → Nat} (hZ : Z ≤ 364) (h4 : oT.1 4 = nI Z) (h8 : ∀ i, i < Z → oT.2.2 8 i = nI (E i)) (hb : ∀ i, i < Z → E i < 11960320 ∧ E i / 32768 ≤ 364) :
    ∀ (fuel i : Nat), Z - i < fuel → i ≤ Z → (∀ j, j < i → E j / 32768 = E 0 / 32768) → ∃ m, f_X5_foremost_L2 oT fuel (nI i) = some (nI m) ∧ m ≤ Z ∧ (∀ j, j < m → E j / 32768 = E 0 / 32768) ∧ (m < Z → E m / 32768 ≠ E 0 / 32768)
  | 0, i, h, _, _ => by omega
  | fuel + 1, i, hf, hi, hj => by
    rw [f_X5_foremost_L2_s, h4]
    by_cases h1 : Z ≤ i
    · rw [if_pos (nI_le h1 (by omega))]
      exact ⟨i, rfl, hi, hj, fun h => by omega⟩
    · obtain ⟨b1', b2'⟩ := hb i (by omega)
      obtain ⟨c1', c2'⟩ := hb 0 (by omega)
      have v0 := votesAt_n (oT := oT) (i := 0) (by omega) (h8 0 (by omega)) c2' (by omega)
      rw [if_neg (nI_ge (by omega) (by omega)), votesAt_n (show i < 364 by omega) (h8 i (by omega)) b2' (by omega), bn1_s]
      rw [show f_X5_votesAt oT 0 = some (nI (364 - E 0 / 32768)) from v0, bn1_s, nI_1]
      by_cases c : E i / 32768 = E 0 / 32768
      · rw [if_pos (by rw [c])]
        exact fm_c hZ h4 h8 hb fuel (i + 1) (by omega) (by omega) (fun j hj2 => by
          rcases Nat.lt_or_ge j i with q | q
          · exact hj j q
          · rw [show j = i by omega]; exact c)
      · rw [if_neg (fun z => c (by have := (nI_eq (by omega) (by omega)).mp z; omega))]
        exact ⟨i, rfl, hi, hj, fun _ => c⟩
theorem bm_m {oM : St} {Z : Nat} {E : Nat → Nat} (hZ : Z ≤ 364) (h36 : oM.1 36 = nI Z) (hE : eT oM Z E) : f_X7_bestMany oM = some (nI (fb_ct (fun k => decide (E k / 32768 = E 0 / 32768)) Z)) := by
  obtain ⟨s, h1, h2⟩ := lpn (fun fuel k (s : Int32) => f_X7_bestMany_L4 oM fuel s (nI k)) (fun s => some s) Z (fun k s => s = nI (fb_ct (fun k => decide (E k / 32768 = E 0 / 32768)) k)) (by
    intro fuel k s hk hs
    refine ⟨_, ?_, rfl⟩
    show f_X7_bestMany_L4 oM (fuel + 1) s (nI k) = f_X7_bestMany_L4 oM fuel (nI (fb_ct (fun k => decide (E k / 32768 = E 0 / 32768)) (k + 1))) (nI (k + 1))
    obtain ⟨-, -, -, a4, a5⟩ := hE k hk
    obtain ⟨-, -, -, c4, c5⟩ := hE 0 (by omega)
    have z0 : ag 364 (oM.2.2 42) 0 = some (oM.2.2 42 0) := ag_n (k := 0) (by decide) (by decide)
    rw [f_X7_bestMany_L4_s, h36, if_neg (nI_ge hk (by omega)), ag_n (show k < 364 by omega) (by decide), bn1_s, z0, bn1_s, a4, c4, hs, nI_1, nI_1, fb_ct_succ]
    by_cases c : E k / 32768 = E 0 / 32768
    · rw [if_pos (by rw [c]), if_pos (by simp [c])]
    · rw [if_neg (fun z => c (by have := (nI_eq (by omega) (by omega)).mp z; omega)), if_neg (by simp [c])]
      rw [show (0 : Int32) = nI 0 from rfl, nI_add]) (by
    intro fuel s hs
    show f_X7_bestMany_L4 oM (fuel + 1) s (nI Z) = _
    rw [f_X7_bestMany_L4_s, h36, if_pos (nI_le (Nat.le_refl _) (by omega))]) fu 0 0 (by omega) (by unfold fu; omega) rfl
  rw [h2] at h1
  exact h1
theorem ct_lt (m : Nat) : ∀ n, m ≤ n → fb_ct (fun k => decide (k < m)) n = m
  | 0, h => by show 0 = m; omega
  | n + 1, h => by
    rw [fb_ct_succ]
    rcases Nat.lt_or_ge n m with q | q
    · have e : fb_ct (fun k => decide (k < m)) n = n := fb_ct_all.mpr (fun k hk => by simp; omega)
      rw [e, if_pos (by simpa using q)]; omega
    · rw [ct_lt m n q, if_neg (by simp; omega)]; omega
/-- what spots() tells: the same of both -/
theorem tot_same {oT oM oB : St} {n : Nat} (hw : wB oB n) (hT : TB oT oB n) (hM : TM oM oB n) : ∃ m, f_X5_foremost oT = some (nI m) ∧ f_X7_bestMany oM = some (nI m) := by
  obtain ⟨Z, E, t1, t2, ⟨t3, t4, t5, t6⟩, m1, m2, m3, m4⟩ := tabs hT hM
  obtain ⟨m, f1, f2, f3, f4⟩ := fm_c t2 t3 (fun i hi => (t6 i hi).1) (fun i hi => tab_b hw t1 hi) fu 0 (by unfold fu; omega) (Nat.zero_le _) (fun j hj => by omega)
  refine ⟨m, f1, ?_⟩
  rw [bm_m t2 m1 m4]
  congr 2
  rw [← ct_lt m Z f2]
  apply fb_ct_cong
  intro k hk
  rw [decide_eq_decide]
  constructor
  · intro h
    rcases Nat.lt_or_ge k m with q | q
    · exact q
    · have hm : m < Z := by omega
      have a := f4 hm
      have b : E 0 ≤ E m := by
        rcases Nat.eq_zero_or_pos m with z | z
        · rw [z]; exact Nat.le_refl _
        · exact Nat.le_of_lt (t1.2.2 0 m z hm)
      have c : E m ≤ E k := by
        rcases Nat.lt_or_ge m k with z | z
        · exact Nat.le_of_lt (t1.2.2 m k z hk)
        · rw [show m = k by omega]; exact Nat.le_refl _
      omega
  · intro h
    exact f3 k h
def ttS (oB : St) (n Z m : Nat) (w : Int32) : Int32 := if w = 0 then nI Z else if w = 1 then nI (bal oB (tri n)).length else if w = 2 then nI (olc oB (tri n)) else if w = 3 then nI m else -102
set_option maxHeartbeats 4000000 in
theorem op_spots {oB oM oT : St} {n : Nat} (hw : wB oB n) (hm : mB oM oB n) (hT : fT oT oB n) (oC oG : St) (v1 : Int32) : ∃ r oT' oC' oG' oM', f_X6_spots oT oB oC oG v1 = some (r, oT', oC', oG') ∧ f_X7_spots oM v1 = some (r, oM') ∧ kM oM oM' ∧ fT oT' oB n := by
  unfold f_X6_spots f_X7_spots
  rw [isThere_c, bn1_s, ite01, within_m, bn1_s, ite10, isSheet_m hm, bn1_s, ite01]
  have q1 : v1 < 0 ↔ v1.toInt < 0 := by rw [Int32.lt_iff_toInt_lt]; rfl
  have q2 : v1 ≤ 3 ↔ v1.toInt ≤ 3 := by rw [Int32.le_iff_toInt_le]; rfl
  by_cases c : (0 : Int) ≤ v1.toInt ∧ v1.toInt ≤ 3
  · rw [if_neg (by rw [q1]; omega), if_pos (by rw [q2]; omega), if_pos (show Int32.toInt 0 ≤ v1.toInt ∧ v1.toInt ≤ Int32.toInt 3 from c)]
    by_cases h0 : (oB.1 0).toInt ≤ 0
    · rw [if_pos h0, if_pos h0]
      exact ⟨_, _, _, _, _, rfl, rfl, kM.rf _, hT⟩
    · obtain ⟨oT1, oC1, oG1, g1, g2⟩ := refresh_c hw hT oC oG
      obtain ⟨oM1, k1, k2, k3⟩ := lay_spots hw hm
      obtain ⟨m, f1, f2⟩ := tot_same hw g2 k3
      obtain ⟨Z, E, t1, t2, ⟨t3, t4, t5, t6⟩, m1, m2, m3, m4⟩ := tabs g2 k3
      rw [if_neg h0, if_neg h0, g1, bn3_s]
      unfold f_X5_total f_X7_spotsNow
      rw [k1, bn1_s, f1, f2, bn1_s, bn1_s, t3, t4, t5, m1, m2, m3]
      by_cases c0 : v1 = 0
      · rw [if_pos c0, if_pos c0]; exact ⟨_, _, _, _, _, rfl, rfl, k2.1, Or.inr g2⟩
      · rw [if_neg c0, if_neg c0]
        by_cases c1 : v1 = 1
        · rw [if_pos c1, if_pos c1]; exact ⟨_, _, _, _, _, rfl, rfl, k2.1, Or.inr g2⟩
        · rw [if_neg c1, if_neg c1]
          by_cases c2 : v1 = 2
          · rw [if_pos c2, if_pos c2]; exact ⟨_, _, _, _, _, rfl, rfl, k2.1, Or.inr g2⟩
          · have c3 : v1 = 3 := by
              rw [← Int32.toInt_inj] at c0 c1 c2 ⊢
              have d0 : ¬ v1.toInt = 0 := c0
              have d1 : ¬ v1.toInt = 1 := c1
              have d2 : ¬ v1.toInt = 2 := c2
              show v1.toInt = 3
              omega
            rw [if_neg c2, if_neg c2, if_pos c3]; exact ⟨_, _, _, _, _, rfl, rfl, k2.1, Or.inr g2⟩
  · refine ⟨-102, oT, oC, oG, oM, ?_, ?_, kM.rf _, hT⟩
    · by_cases h5 : v1 < 0
      · rw [if_pos h5]
      · rw [if_neg h5, if_neg (by rw [q2]; rw [q1] at h5; omega)]
    · rw [if_neg (show ¬ (Int32.toInt 0 ≤ v1.toInt ∧ v1.toInt ≤ Int32.toInt 3) from c)]
