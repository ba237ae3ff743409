/-! the whole relation between class and reference -/
def RR (oR oM : St) (n : Nat) : Prop := (oR.1 3 = 0 ∧ oM.1 10 = 0 ∧ oR.1 4 = 0) ∨ (oR.1 3 = 1 ∧ oM.1 10 = 1 ∧ ∃ q, RQ oR oM n q)
def pgR (oP oM : St) : Prop := ∃ p, p ≤ 50 ∧ oP.1 1 = nI p ∧ oM.1 0 = nI p ∧ ∀ j, j < p → oP.2.2 0 j = oM.2.2 1 j
def REL (oX oP oR oT oB oM : St) : Prop := ∃ n, wB oB n ∧ mB oM oB n ∧ fT oT oB n ∧ pgR oP oM ∧ RR oR oM n ∧ oX.1 6 = oM.1 4 ∧ oX.1 7 = oM.1 16 ∧ oX.1 8 = oM.1 17
theorem pgR.k {oP oM oM' : St} (h : pgR oP oM) (hk : kM oM oM') : pgR oP oM' := by
  obtain ⟨p, h1, h2, h3, h4⟩ := h
  refine ⟨p, h1, h2, ?_, ?_⟩
  · rw [(hk 0 (by omega)).1]; exact h3
  · rw [(hk 1 (by omega)).2]; exact h4
theorem pgR.r {oP oM oM' : St} (h : pgR oP oM) (hk : rM oM oM') : pgR oP oM' := by
  obtain ⟨p, h1, h2, h3, h4⟩ := h
  refine ⟨p, h1, h2, ?_, ?_⟩
  · rw [hk.1 0 (by omega)]; exact h3
  · rw [hk.2 1 (by omega)]; exact h4
theorem RQ.k {oR oM oM' : St} {n q : Nat} (h : RQ oR oM n q) (hk : kM oM oM') : RQ oR oM' n q := by
  unfold RQ at h ⊢
  rw [(hk 11 (by omega)).1, (hk 12 (by omega)).2, (hk 13 (by omega)).2, (hk 14 (by omega)).2, (hk 15 (by omega)).2]
  exact h
theorem RR.k {oR oM oM' : St} {n : Nat} (h : RR oR oM n) (hk : kM oM oM') : RR oR oM' n := by
  rcases h with ⟨h1, h2, h3⟩ | ⟨h1, h2, q, h3⟩
  · exact Or.inl ⟨h1, by rw [(hk 10 (by omega)).1]; exact h2, h3⟩
  · exact Or.inr ⟨h1, by rw [(hk 10 (by omega)).1]; exact h2, q, h3.k hk⟩
/-- an act that changes scratch alone -/
theorem REL.k {oX oP oR oT oT' oB oM oM' : St} (h : REL oX oP oR oT oB oM) (hk : kM oM oM') (hT : ∀ n, wB oB n → mB oM oB n → fT oT oB n → fT oT' oB n) : REL oX oP oR oT' oB oM' := by
  obtain ⟨n, h1, h2, h3, h4, h5, h6, h7, h8⟩ := h
  refine ⟨n, h1, h2.k hk, hT n h1 h2 h3, h4.k hk, h5.k hk, ?_, ?_, ?_⟩
  · rw [(hk 4 (by omega)).1]; exact h6
  · rw [(hk 16 (by omega)).1]; exact h7
  · rw [(hk 17 (by omega)).1]; exact h8
set_option maxHeartbeats 4000000 in
theorem op_hunt {oX oP oR oT oB oM : St} (h : REL oX oP oR oT oB oM) (oC oG : St) : ∃ r oX' oR' oT' oC' oG' oM', f_X6_hunt oX oR oT oB oC oG = some (r, oX', oR', oT', oC', oG') ∧ f_X7_hunt oM = some (r, oM') ∧ REL oX' oP oR' oT' oB oM' := by
  have h0 := h
  obtain ⟨n, hw, hm, hT, hp, hR, c6, c7, c8⟩ := h
  have hn := hw.1
  unfold f_X6_hunt f_X7_hunt
  rw [isThere_c, bn1_s, ite01, isSheet_m hm, bn1_s, ite01]
  by_cases hW : (oB.1 0).toInt ≤ 0
  · rw [if_pos hW, if_pos hW]
    exact ⟨_, _, _, _, _, _, _, rfl, rfl, h0⟩
  · rw [if_neg hW, if_neg hW]
    obtain ⟨oT1, oC1, oG1, g1, g2⟩ := refresh_c hw hT oC oG
    obtain ⟨oM1, k1, k2, k3⟩ := lay_spots hw hm
    obtain ⟨Z, E, t1, t2, ⟨t3, t4, t5, t6⟩, m1, m2, m3, m4⟩ := tabs g2 k3
    have hm1 := hm.k k2.1
    unfold f_X7_huntNow f_X3_keepBest
    rw [g1, bn3_s, k1, bn1_s, bn1_s, bn1_s, hm1.2.2.1, hw.2.1]
    obtain ⟨oM2, o1, o2, o3⟩ := none_L (oM := sI (sI (sI oM1 11 0) 16 (oM1.1 16 + 1)) 10 1) hn hm1.2.2.1 (((1 : Int32) <<< (nI n &&& 31)) - 1) (fun (oM8 : St) => bn1 (f_X7_bestSpot oM8 (((1 : Int32) <<< (nI n &&& 31)) - 1)) fun x9 => f_X7_huntNow_L62 fu (((1 : Int32) <<< (nI n &&& 31)) - 1) x9 oM8)
    rw [o1]
    have hr2 : rM oM1 oM2 := ((((rM.rf oM1).i _ (by omega)).i _ (by omega)).i _ (by omega)).tr o2.r
    have hm2 := hm1.r hr2
    have hE2 := m4.r hr2
    have h362 : oM2.1 36 = nI Z := by rw [hr2.1 36 (by omega), m1]
    have z10 : oM2.1 10 = 1 := by rw [o2.1]; rfl
    have z11 : oM2.1 11 = nI 0 := by rw [o2.1]; rfl
    have z16 : oM2.1 16 = oM1.1 16 + 1 := by rw [o2.1]; rfl
    have z17 : oM2.1 17 = oM1.1 17 := by rw [o2.1]; rfl
    rw [best_m hw hm2 t2 h362 hE2, bn1_s]
    obtain ⟨oR', oG', oM', q', w1, w2, w3, w4, w5, w6, w7, w8⟩ := hunt_L hw (by omega) t2 t3 (fun i hi => (tab_b hw t1 hi).1) t6 7 0 fu fu (sI (sI oR 3 1) 4 0) oG1 oM2 (((1 : Int32) <<< (nI n &&& 31)) - 1) (by omega) (by unfold fu; omega) (by unfold fu; omega) hm2 h362 hE2 ⟨rfl, z11, by omega, fun i hi => by omega, fun i hi => by omega, fun j hj => Or.inl (o3 j hj)⟩ (by
      intro j hj
      rw [b_mask n (by omega) j hj]
      by_cases c : j < n
      · rw [decide_eq_true c, decide_eq_true (o3 j c)]; rfl
      · rw [decide_eq_false c]; rfl) (by have := pc_le (((1 : Int32) <<< (nI n &&& 31)) - 1); omega)
    rw [w1, bn2_s, w2, bn2_s, w3.1]
    refine ⟨_, _, _, _, _, _, _, rfl, rfl, n, hw, hm2.r w5, Or.inr g2, ((hp.k k2.1).r hr2).r w5, Or.inr ⟨?_, ?_, q', w3⟩, ?_, ?_, ?_⟩
    · rw [w4]; rfl
    · rw [w6, z10]
    · show oX.1 6 = _
      rw [w5.1 4 (by omega), hr2.1 4 (by omega), (k2.1 4 (by omega)).1]; exact c6
    · show oX.1 7 + 1 = _
      rw [w7, z16, (k2.1 16 (by omega)).1, c7]
    · show oX.1 8 = _
      rw [w8, z17, (k2.1 17 (by omega)).1]; exact c8
/-! the nearest ring of a dot -/
def fa9 (oB : St) (k j : Nat) : Nat := (far oB (k % 32) (k / 32 % 32) j - (2 * ((k / 1024 % 32 : Nat) : Int) + 1) * (2 * ((k / 1024 % 32 : Nat) : Int) + 1)).natAbs
def su9 (oB : St) (k j : Nat) : Bool := supS oB (k % 32) (k / 32 % 32) (k / 1024 % 32) j
def nrS (oB : St) (kk : Nat → Nat) (j : Nat) : Nat → Int32 × Nat
  | 0 => (-1, 0)
  | i + 1 => if su9 oB (kk i) j = true ∧ ((nrS oB kk j i).1 = -1 ∨ fa9 oB (kk i) j < (nrS oB kk j i).2) then (nI i, fa9 oB (kk i) j) else nrS oB kk j i
theorem nrS_s (oB : St) (kk : Nat → Nat) (j i : Nat) : nrS oB kk j (i + 1) = if su9 oB (kk i) j = true ∧ ((nrS oB kk j i).1 = -1 ∨ fa9 oB (kk i) j < (nrS oB kk j i).2) then (nI i, fa9 oB (kk i) j) else nrS oB kk j i := rfl
theorem nrS_is (oB : St) (kk : Nat → Nat) (j : Nat) : ∀ i, nrS oB kk j i = (-1, 0) ∨ ∃ p, p < i ∧ nrS oB kk j i = (nI p, fa9 oB (kk p) j)
  | 0 => Or.inl rfl
  | i + 1 => by
    rw [nrS_s]
    split
    · exact Or.inr ⟨i, by omega, rfl⟩
    · rcases nrS_is oB kk j i with h | ⟨p, h1, h2⟩
      · exact Or.inl h
      · exact Or.inr ⟨p, by omega, h2⟩
theorem fa9_le {oB : St} {n j k : Nat} (hw : wB oB n) (hj : j < n) : fa9 oB k j ≤ 40000 := by
  have hG : isG (sI (sI (sI oB 1 (nI (2 * (k % 32) + 1))) 2 (nI (2 * (k / 32 % 32) + 1))) 3 (nI (k / 1024 % 32))) (k % 32) (k / 32 % 32) (k / 1024 % 32) := ⟨rfl, rfl, rfl⟩
  obtain ⟨v, -, bv⟩ := sq_c hw hj hG (by omega) (by omega)
  have h1 := bv.2
  have h2 : (2 * ((k / 1024 % 32 : Nat) : Int) + 1).natAbs ≤ 63 := by omega
  have h3 := abs_mul_le h2 h2
  unfold fa9
  omega
theorem farn_c {oB oG : St} {n j k : Nat} (hw : wB oB n) (hj : j < n) (hG : isG oG (k % 32) (k / 32 % 32) (k / 1024 % 32)) : f_X4_farness oG oB (nI j) = some (nI (fa9 oB k j)) := by
  obtain ⟨v, hv, bv⟩ := sq_c hw hj hG (by omega) (by omega)
  have hle := fa9_le (k := k) hw hj
  have rr : bI (oG.1 3) ((k / 1024 % 32 : Nat) : Int) 31 := by rw [hG.2.2]; exact bnI (by omega) (by decide)
  have ln := (b2.mul rr (by decide)).add b1 (by decide)
  have df := bv.sub (ln.mul ln (by decide)) (by decide)
  unfold f_X4_farness
  rw [hv, bn1_s]
  congr 1
  have e : (0 : Int32) ≤ v - (2 * oG.1 3 + 1) * (2 * oG.1 3 + 1) ↔ 0 ≤ far oB (k % 32) (k / 32 % 32) j - (2 * ((k / 1024 % 32 : Nat) : Int) + 1) * (2 * ((k / 1024 % 32 : Nat) : Int) + 1) := df.ge0
  by_cases c : 0 ≤ far oB (k % 32) (k / 32 % 32) j - (2 * ((k / 1024 % 32 : Nat) : Int) + 1) * (2 * ((k / 1024 % 32 : Nat) : Int) + 1)
  · rw [if_pos (e.mpr c)]
    exact df.toN (by unfold fa9; omega) (by omega)
  · rw [if_neg (fun z => c (e.mp z))]
    exact (b0.sub df (by decide)).toN (by unfold fa9; omega) (by omega)
/-- the keys of the rings, in both -/
def RK (oR oM : St) (q : Nat) (kk : Nat → Nat) : Prop := ∀ i, i < q → kk i < 32768 ∧ oR.2.2 5 i = nI (kk i) ∧ oM.2.2 12 i = nI (kk i % 32) ∧ oM.2.2 13 i = nI (kk i / 32 % 32) ∧ oM.2.2 14 i = nI (kk i / 1024 % 32)
theorem farf_m {oB oM oR : St} {n j q i : Nat} {kk : Nat → Nat} (hw : wB oB n) (hm : mB oM oB n) (hq : q ≤ 7) (hK : RK oR oM q kk) (hi : i < q) (hj : j < n) : f_X7_farFrom oM (nI i) (nI j) = some (nI (fa9 oB (kk i) j)) := by
  obtain ⟨k1, k2, k3, k4, k5⟩ := hK i hi
  have hle := fa9_le (k := kk i) hw hj
  obtain ⟨v, hv, bv⟩ := farOf_m (cx := kk i % 32) (cy := kk i / 32 % 32) hw hm hj (by omega) (by omega)
  unfold f_X7_farFrom
  rw [ag_n (show i < 14 by omega) (by decide), ag_n (show i < 14 by omega) (by decide), ag_n (show i < 14 by omega) (by decide), bn1_s, bn1_s, bn1_s, k3, k4, k5, hv, bn1_s]
  have rr : bI (nI (kk i / 1024 % 32)) ((kk i / 1024 % 32 : Nat) : Int) 31 := bnI (by omega) (by decide)
  have ln := (b2.mul rr (by decide)).add b1 (by decide)
  have df := bv.sub (ln.mul ln (by decide)) (by decide)
  obtain ⟨y, hy, by'⟩ := abs_m df (by decide)
  rw [hy, bn1_s, by'.toN (k := fa9 oB (kk i) j) rfl (by omega)]
theorem has_r {oR : St} {q : Nat} (hq : q ≤ 7) (h : oR.1 4 = nI q) (v : Int32) : f_X3_has oR v = some (if isJ q v then 1 else 0) := by
  unfold f_X3_has isJ
  have e1 : v < 0 ↔ v.toInt < 0 := by rw [Int32.lt_iff_toInt_lt]; rfl
  have e2 : oR.1 4 ≤ v ↔ (q : Int) ≤ v.toInt := by rw [h, Int32.le_iff_toInt_le, nI_toInt (by omega)]
  simp only [e1, e2]
  by_cases h1 : v.toInt < 0
  · rw [if_pos h1, decide_eq_false (by omega)]; rfl
  · rw [if_neg h1, decide_eq_true (by omega)]
    by_cases h3 : (q : Int) ≤ v.toInt
    · rw [if_pos h3, decide_eq_false (by omega)]; rfl
    · rw [if_neg h3, decide_eq_true (by omega)]; rfl
set_option maxHeartbeats 4000000 in
theorem near_c {oB oR oM : St} {n j q : Nat} {kk : Nat → Nat} (hw : wB oB n) (hq : q ≤ 7) (h4 : oR.1 4 = nI q) (hK : RK oR oM q kk) (hj : j < n) (oG : St) : ∃ oG', f_X3_nearestRing oR oB oG (nI j) = some ((nrS oB kk j q).1, oG') := by
  obtain ⟨s, h1, h2⟩ := lpn (fun fuel k (s : Int32 × Int32 × St) => f_X3_nearestRing_L7 oR oB (nI j) fuel s.1 s.2.1 (nI k) s.2.2) (fun s => some (s.1, s.2.2)) q (fun k s => s.1 = (nrS oB kk j k).1 ∧ s.2.1 = nI (nrS oB kk j k).2) (by
    intro fuel k s hk hs
    obtain ⟨k1, k2, -⟩ := hK k hk
    obtain ⟨oG', g1, g2⟩ := from_c s.2.2 (k := kk k) (by omega)
    refine ⟨((nrS oB kk j (k + 1)).1, nI (nrS oB kk j (k + 1)).2, oG'), ?_, rfl, rfl⟩
    show f_X3_nearestRing_L7 oR oB (nI j) (fuel + 1) s.1 s.2.1 (nI k) s.2.2 = f_X3_nearestRing_L7 oR oB (nI j) fuel (nrS oB kk j (k + 1)).1 (nI (nrS oB kk j (k + 1)).2) (nI (k + 1)) oG'
    have hf1 := fa9_le (k := kk k) hw hj
    have hf2 : (nrS oB kk j k).2 ≤ 40000 := by
      rcases nrS_is oB kk j k with h | ⟨p, -, h⟩
      · rw [h]; exact Nat.zero_le _
      · rw [h]; exact fa9_le hw hj
    rw [f_X3_nearestRing_L7_s, h4, if_neg (nI_ge hk (by omega)), ag_n (show k < 7 by omega) (by decide), bn1_s, k2, g1, bn1_s, sup_c hw hj g2 (by omega) (by omega) (by omega), bn1_s, ite10, farn_c hw hj g2, bn1_s, bn1_s, hs.1, hs.2, nI_1, nrS_s]
    show (if su9 oB (kk k) j = true then _ else _) = _
    by_cases c1 : su9 oB (kk k) j = true
    · rw [if_pos c1]
      by_cases c2 : (nrS oB kk j k).1 = -1
      · rw [if_pos c2, if_pos ⟨c1, Or.inl c2⟩]
      · rw [if_neg c2]
        by_cases c3 : fa9 oB (kk k) j < (nrS oB kk j k).2
        · rw [if_neg (nI_ge c3 (by omega)), if_pos ⟨c1, Or.inr c3⟩]
        · rw [if_pos (nI_le (by omega) (by omega)), if_neg (fun z => z.2.elim c2 c3)]
    · rw [if_neg c1, if_neg (fun z => c1 z.1)]) (by
    intro fuel s hs
    show f_X3_nearestRing_L7 oR oB (nI j) (fuel + 1) s.1 s.2.1 (nI q) s.2.2 = _
    rw [f_X3_nearestRing_L7_s, h4, if_pos (nI_le (Nat.le_refl _) (by omega))]) fu 0 (-1, 0, oG) (by omega) (by unfold fu; omega) ⟨rfl, rfl⟩
  refine ⟨s.2.2, ?_⟩
  rw [← h2.1]
  exact h1
set_option maxHeartbeats 4000000 in
theorem near_m {oB oR oM : St} {n j q : Nat} {kk : Nat → Nat} (hw : wB oB n) (hm : mB oM oB n) (hq : q ≤ 7) (h11 : oM.1 11 = nI q) (hK : RK oR oM q kk) (hj : j < n) : f_X7_nearestRing oM (nI j) = some (nrS oB kk j q).1 := by
  obtain ⟨s, h1, h2⟩ := lpn (fun fuel k (s : Int32) => f_X7_nearestRing_L4 oM (nI j) fuel s (nI k)) (fun s => some s) q (fun k s => s = (nrS oB kk j k).1) (by
    intro fuel k s hk hs
    obtain ⟨k1, k2, k3, k4, k5⟩ := hK k hk
    refine ⟨(nrS oB kk j (k + 1)).1, ?_, rfl⟩
    show f_X7_nearestRing_L4 oM (nI j) (fuel + 1) s (nI k) = f_X7_nearestRing_L4 oM (nI j) fuel (nrS oB kk j (k + 1)).1 (nI (k + 1))
    have hf1 := fa9_le (k := kk k) hw hj
    rw [f_X7_nearestRing_L4_s, h11, if_neg (nI_ge hk (by omega)), ag_n (show k < 14 by omega) (by decide), ag_n (show k < 14 by omega) (by decide), ag_n (show k < 14 by omega) (by decide), bn1_s, bn1_s, bn1_s, k3, k4, k5, sup_m hw hm hj (by omega) (by omega) (by omega), bn1_s, ite10, farf_m hw hm hq hK hk hj, bn1_s, hs, nI_1, nrS_s]
    show (if su9 oB (kk k) j = true then _ else _) = _
    by_cases c1 : su9 oB (kk k) j = true
    · rw [if_pos c1]
      rcases nrS_is oB kk j k with h | ⟨p, hp, h⟩
      · rw [h, if_pos rfl, if_pos ⟨c1, Or.inl rfl⟩]
      · have hf2 := fa9_le (k := kk p) hw hj
        have hne : ¬ nI p = (-1 : Int32) := fun z => m1_nI (show p < 1000 by omega) z.symm
        rw [h, if_neg hne, farf_m hw hm hq hK (show p < q by omega) hj, bn1_s]
        by_cases c3 : fa9 oB (kk k) j < fa9 oB (kk p) j
        · rw [if_neg (nI_ge c3 (by omega)), if_pos ⟨c1, Or.inr c3⟩]
        · rw [if_pos (nI_le (by omega) (by omega)), if_neg (fun z => z.2.elim hne c3)]
    · rw [if_neg c1, if_neg (fun z => c1 z.1)]) (by
    intro fuel s hs
    show f_X7_nearestRing_L4 oM (nI j) (fuel + 1) s (nI q) = _
    rw [f_X7_nearestRing_L4_s, h11, if_pos (nI_le (Nat.le_refl _) (by omega))]) fu 0 (-1) (by omega) (by unfold fu; omega) rfl
  rw [← h2]
  exact h1
