/-! dots told off to the nearest -/
def oR6 (oR oR' : St) : Prop := oR'.1 = oR.1 ∧ ∀ k, k ≠ 6 → oR'.2.2 k = oR.2.2 k
theorem zero_L {oR : St} {q : Nat} (hq : q ≤ 7) (h4 : oR.1 4 = nI q) (K : St → Option (St × St)) : ∃ oR', f_X3_tellOff_L2 K fu 0 oR = K oR' ∧ oR6 oR oR' ∧ ∀ i, i < q → oR'.2.2 6 i = 0 := by
  obtain ⟨s, h1, h2⟩ := lpn (fun fuel k (s : St) => f_X3_tellOff_L2 K fuel (nI k) s) (fun s => K s) q (fun k s => oR6 oR s ∧ ∀ j, j < k → s.2.2 6 j = 0) (by
    intro fuel k s hk hs
    obtain ⟨a1, a2⟩ := hs
    refine ⟨sR s 6 (upd (s.2.2 6) k 0), ?_, ⟨a1.1, fun q hq => by rw [sR_3, if_neg hq]; exact a1.2 q hq⟩, fun j hj => ?_⟩
    · show f_X3_tellOff_L2 K (fuel + 1) (nI k) s = f_X3_tellOff_L2 K fuel (nI (k + 1)) (sR s 6 (upd (s.2.2 6) k 0))
      rw [f_X3_tellOff_L2_s, a1.1, h4, if_neg (nI_ge hk (by omega)), nI_1, aw_n (show k < 7 by omega) (by decide), bn1_s]
    · show upd (s.2.2 6) k _ j = _
      rw [upd_e]
      by_cases e : j = k
      · rw [if_pos e]
      · rw [if_neg e]; exact a2 j (by omega)) (by
    intro fuel s hs
    show f_X3_tellOff_L2 K (fuel + 1) (nI q) s = _
    rw [f_X3_tellOff_L2_s, hs.1.1, h4, if_pos (nI_le (Nat.le_refl _) (by omega))]) fu 0 oR (by omega) (by unfold fu; omega) ⟨⟨rfl, fun _ _ => rfl⟩, fun j hj => by omega⟩
  exact ⟨s, h1, h2⟩
theorem RK.c {oR oR' oM : St} {q : Nat} {kk : Nat → Nat} (h : RK oR oM q kk) (h2 : oR6 oR oR') : RK oR' oM q kk := by
  unfold RK at h ⊢
  rw [h2.2 5 (by omega)]
  exact h
theorem RK.m {oR oM oM' : St} {q : Nat} {kk : Nat → Nat} (h : RK oR oM q kk) (h2 : oM15 oM oM') : RK oR oM' q kk := by
  unfold RK at h ⊢
  rw [h2.2 12 (by omega), h2.2 13 (by omega), h2.2 14 (by omega)]
  exact h
def nS (oB : St) (kk : Nat → Nat) (q j : Nat) : Int32 := (nrS oB kk j q).1
theorem nS_is (oB : St) (kk : Nat → Nat) (q j : Nat) : nS oB kk q j = -1 ∨ ∃ i, i < q ∧ nS oB kk q j = nI i := by
  rcases nrS_is oB kk j q with h | ⟨p, h1, h2⟩
  · left; unfold nS; rw [h]
  · right; exact ⟨p, h1, by unfold nS; rw [h2]⟩
theorem isJ_nI {q i : Nat} (h : i < q) (hq : q ≤ 1000) : isJ q (nI i) = true := by
  unfold isJ
  rw [nI_toInt (by omega), decide_eq_true (by omega), decide_eq_true (by omega)]; rfl
theorem isJ_m1 (q : Nat) : isJ q (-1) = false := rfl
set_option maxHeartbeats 4000000 in
theorem told_c {oB oR oM : St} {n q : Nat} {kk : Nat → Nat} (hw : wB oB n) (hq : q ≤ 7) (h4 : oR.1 4 = nI q) (hK : RK oR oM q kk) (oG : St) : ∃ oR' oG', f_X3_tellOff oR oB oG = some (oR', oG') ∧ oR6 oR oR' ∧ ∀ i, i < q → oR'.2.2 6 i = bs (fun j => decide (nS oB kk q j = nI i)) n := by
  have hn := hw.1
  unfold f_X3_tellOff
  obtain ⟨oR1, z1, z2, z3⟩ := zero_L hq h4 (fun (oR4 : St) => f_X3_tellOff_L25 oB fu 0 oR4 oG)
  rw [z1]
  obtain ⟨s, h1, h2⟩ := lpn (fun fuel k (s : St × St) => f_X3_tellOff_L25 oB fuel (nI k) s.1 s.2) (fun s => some (s.1, s.2)) n (fun k s => oR6 oR s.1 ∧ ∀ i, i < q → s.1.2.2 6 i = bs (fun j => decide (nS oB kk q j = nI i)) k) (by
    intro fuel k s hk hs
    obtain ⟨a1, a2⟩ := hs
    have h4s : s.1.1 4 = nI q := by rw [a1.1, h4]
    obtain ⟨oG', g1⟩ := near_c (oG := s.2) hw hq h4s (hK.c a1) hk
    have g1 : f_X3_nearestRing s.1 oB s.2 (nI k) = some (nS oB kk q k, oG') := g1
    rcases nS_is oB kk q k with h | ⟨i0, hi0, h⟩
    · refine ⟨(s.1, oG'), ?_, a1, fun i hi => ?_⟩
      · show f_X3_tellOff_L25 oB (fuel + 1) (nI k) s.1 s.2 = f_X3_tellOff_L25 oB fuel (nI (k + 1)) s.1 oG'
        rw [f_X3_tellOff_L25_s, hw.2.1, if_neg (nI_ge hk (by omega)), g1, bn2_s, has_r hq h4s, bn1_s, h, isJ_m1, if_pos (by decide), nI_1]
      · rw [bs_s, if_neg (by rw [h]; simp; exact m1_nI (by omega))]
        exact a2 i hi
    · refine ⟨(sR s.1 6 (upd (s.1.2.2 6) i0 (s.1.2.2 6 i0 ||| ((1 : Int32) <<< (nI k &&& 31)))), oG'), ?_, ⟨a1.1, fun p hp => by rw [sR_3, if_neg hp]; exact a1.2 p hp⟩, fun i hi => ?_⟩
      · show f_X3_tellOff_L25 oB (fuel + 1) (nI k) s.1 s.2 = f_X3_tellOff_L25 oB fuel (nI (k + 1)) (sR s.1 6 (upd (s.1.2.2 6) i0 (s.1.2.2 6 i0 ||| ((1 : Int32) <<< (nI k &&& 31))))) oG'
        rw [f_X3_tellOff_L25_s, hw.2.1, if_neg (nI_ge hk (by omega)), g1, bn2_s, has_r hq h4s, bn1_s, h, isJ_nI hi0 (by omega), if_neg (by decide), ag_n (show i0 < 7 by omega) (by decide), bn1_s, aw_n (show i0 < 7 by omega) (by decide), bn1_s, nI_1]
      · show upd (s.1.2.2 6) i0 _ i = _
        rw [upd_e, bs_s]
        by_cases e : i = i0
        · subst e
          rw [if_pos rfl, if_pos (by simp [h]), a2 i hi]
        · rw [if_neg e, if_neg (by rw [h]; simp; exact fun z => e ((nI_eq (by omega) (by omega)).mp z).symm)]
          exact a2 i hi) (by
    intro fuel s hs
    show f_X3_tellOff_L25 oB (fuel + 1) (nI n) s.1 s.2 = _
    rw [f_X3_tellOff_L25_s, hw.2.1, if_pos (nI_le (Nat.le_refl _) (by omega))]) fu 0 (oR1, oG) (by omega) (by unfold fu; omega) ⟨z2, fun i hi => z3 i hi⟩
  exact ⟨s.1, s.2, h1, h2⟩
theorem told_m {oB oR oM : St} {n q : Nat} {kk : Nat → Nat} (hw : wB oB n) (hm : mB oM oB n) (hq : q ≤ 7) (h11 : oM.1 11 = nI q) (hK : RK oR oM q kk) : ∃ oM', f_X7_tellOff oM = some oM' ∧ oM15 oM oM' ∧ ∀ j, j < n → oM'.2.2 15 j = nS oB kk q j := by
  have hn := hw.1
  unfold f_X7_tellOff
  obtain ⟨s, h1, h2⟩ := lpn (fun fuel k (s : St) => f_X7_tellOff_L2 fuel (nI k) s) (fun s => some s) n (fun k s => oM15 oM s ∧ ∀ j, j < k → s.2.2 15 j = nS oB kk q j) (by
    intro fuel k s hk hs
    obtain ⟨a1, a2⟩ := hs
    have hms := hm.r a1.r
    have g1 := near_m hw hms hq (by rw [a1.1, h11]) (hK.m a1) hk
    have g1 : f_X7_nearestRing s (nI k) = some (nS oB kk q k) := g1
    refine ⟨sR s 15 (upd (s.2.2 15) k (nS oB kk q k)), ?_, ⟨a1.1, fun p hp => by rw [sR_3, if_neg hp]; exact a1.2 p hp⟩, fun j hj => ?_⟩
    · show f_X7_tellOff_L2 (fuel + 1) (nI k) s = f_X7_tellOff_L2 fuel (nI (k + 1)) (sR s 15 (upd (s.2.2 15) k (nS oB kk q k)))
      rw [f_X7_tellOff_L2_s, hms.2.2.1, if_neg (nI_ge hk (by omega)), g1, bn1_s, aw_n (show k < 14 by omega) (by decide), bn1_s, nI_1]
    · show upd (s.2.2 15) k _ j = _
      rw [upd_e]
      by_cases e : j = k
      · rw [if_pos e, e]
      · rw [if_neg e]; exact a2 j (by omega)) (by
    intro fuel s hs
    show f_X7_tellOff_L2 (fuel + 1) (nI n) s = _
    rw [f_X7_tellOff_L2_s, (hm.r hs.1.r).2.2.1, if_pos (nI_le (Nat.le_refl _) (by omega))]) fu 0 oM (by omega) (by unfold fu; omega) ⟨⟨rfl, fun _ _ => rfl⟩, fun j hj => by omega⟩
  exact ⟨s, h1, h2⟩
/-! their own, and the weakest -/
theorem ownOf_m {oM : St} {n i : Nat} (hn : n ≤ 14) (h5 : oM.1 5 = nI n) : f_X7_ownOf oM (nI i) = some (bs (fun j => decide (oM.2.2 15 j = nI i)) n) := by
  obtain ⟨s, h1, h2⟩ := lpn (fun fuel k (s : Int32) => f_X7_ownOf_L4 oM (nI i) fuel s (nI k)) (fun s => some s) n (fun k s => s = bs (fun j => decide (oM.2.2 15 j = nI i)) k) (by
    intro fuel k s hk hs
    refine ⟨_, ?_, rfl⟩
    show f_X7_ownOf_L4 oM (nI i) (fuel + 1) s (nI k) = f_X7_ownOf_L4 oM (nI i) fuel (bs (fun j => decide (oM.2.2 15 j = nI i)) (k + 1)) (nI (k + 1))
    rw [f_X7_ownOf_L4_s, h5, if_neg (nI_ge hk (by omega)), ag_n (show k < 14 by omega) (by decide), bn1_s, bn1_s, nI_or0, nI_1, hs, bs_s]
    by_cases c : oM.2.2 15 k = nI i
    · rw [if_pos c, if_pos (by simp [c])]
    · rw [if_neg c, if_neg (by simp [c])]) (by
    intro fuel s hs
    show f_X7_ownOf_L4 oM (nI i) (fuel + 1) s (nI n) = _
    rw [f_X7_ownOf_L4_s, h5, if_pos (nI_le (Nat.le_refl _) (by omega))]) fu 0 0 (by omega) (by unfold fu; omega) rfl
  rw [h2] at h1
  exact h1
theorem ownC_c {oR : St} {i n : Nat} {p : Nat → Bool} (hi : i < 7) (hn : n ≤ 14) (h : oR.2.2 6 i = bs p n) : f_X3_ownCount oR (nI i) = some (nI (pc (bs p n))) := by
  unfold f_X3_ownCount
  rw [ag_n hi (by decide), bn1_s, h, bc_c (s14_bs p hn)]
  rfl
def wkS (nd : Int) (c : Nat → Nat) : Nat → Int32 × Int
  | 0 => (-1, nd - 1)
  | i + 1 => if (c i : Int) ≤ (wkS nd c i).2 then (nI i, (c i : Int)) else wkS nd c i
theorem wkS_s (nd : Int) (c : Nat → Nat) (i : Nat) : wkS nd c (i + 1) = if (c i : Int) ≤ (wkS nd c i).2 then (nI i, (c i : Int)) else wkS nd c i := rfl
theorem wkS_is (nd : Int) (c : Nat → Nat) : ∀ i, wkS nd c i = (-1, nd - 1) ∨ ∃ p, p < i ∧ wkS nd c i = (nI p, (c p : Int)) ∧ (c p : Int) ≤ nd - 1
  | 0 => Or.inl rfl
  | i + 1 => by
    rw [wkS_s]
    rcases wkS_is nd c i with h | ⟨p, h1, h2, h3⟩
    · rw [h]
      by_cases k : (c i : Int) ≤ nd - 1
      · rw [if_pos k]; exact Or.inr ⟨i, by omega, rfl, k⟩
      · rw [if_neg k]; exact Or.inl rfl
    · rw [h2]
      by_cases k : (c i : Int) ≤ (c p : Int)
      · rw [if_pos k]; exact Or.inr ⟨i, by omega, rfl, by omega⟩
      · rw [if_neg k]; exact Or.inr ⟨p, by omega, rfl, h3⟩
theorem need_b {oB : St} {n : Nat} (hw : wB oB n) : bI (oB.1 6) (oB.1 6).toInt 14 := by
  obtain ⟨-, -, -, -, -, -, -, hs, -⟩ := hw
  exact ⟨rfl, by omega⟩
def cO (oM : St) (n i : Nat) : Nat := pc (bs (fun j => decide (oM.2.2 15 j = nI i)) n)
set_option maxHeartbeats 4000000 in
theorem weak_c {oB oR oM : St} {n q : Nat} (hw : wB oB n) (hR : RQ oR oM n q) : f_X3_weakest oR oB = some (wkS (oB.1 6).toInt (cO oM n) q).1 := by
  have hn := hw.1
  obtain ⟨r1, r2, r3, r4, r5, r6⟩ := hR
  have nb := need_b hw
  obtain ⟨s, h1, h2⟩ := lpn (fun fuel k (s : Int32 × Int32) => f_X3_weakest_L14 oR fuel s.1 s.2 (nI k)) (fun s => some s.1) q (fun k s => s.1 = (wkS (oB.1 6).toInt (cO oM n) k).1 ∧ bI s.2 (wkS (oB.1 6).toInt (cO oM n) k).2 15) (by
    intro fuel k s hk hs
    have hc : f_X3_ownCount oR (nI k) = some (nI (cO oM n k)) := ownC_c (show k < 7 by omega) hn (r5 k hk)
    have hle : cO oM n k ≤ 14 := pc_le _
    have bc : bI (nI (cO oM n k)) (cO oM n k : Int) 15 := bnI (by omega) (by decide)
    by_cases c : (cO oM n k : Int) ≤ (wkS (oB.1 6).toInt (cO oM n) k).2
    · refine ⟨(nI k, nI (cO oM n k)), ?_, ?_⟩
      · show f_X3_weakest_L14 oR (fuel + 1) s.1 s.2 (nI k) = f_X3_weakest_L14 oR fuel (nI k) (nI (cO oM n k)) (nI (k + 1))
        rw [f_X3_weakest_L14_s, r1, if_neg (nI_ge hk (by omega)), hc, bn1_s, bn1_s, if_neg (by rw [hs.2.lt bc]; omega), nI_1]
      · rw [wkS_s, if_pos c]; exact ⟨rfl, bc⟩
    · refine ⟨s, ?_, ?_⟩
      · show f_X3_weakest_L14 oR (fuel + 1) s.1 s.2 (nI k) = f_X3_weakest_L14 oR fuel s.1 s.2 (nI (k + 1))
        rw [f_X3_weakest_L14_s, r1, if_neg (nI_ge hk (by omega)), hc, bn1_s, bn1_s, if_pos (by rw [hs.2.lt bc]; omega), nI_1]
      · rw [wkS_s, if_neg c]; exact hs) (by
    intro fuel s hs
    show f_X3_weakest_L14 oR (fuel + 1) s.1 s.2 (nI q) = _
    rw [f_X3_weakest_L14_s, r1, if_pos (nI_le (Nat.le_refl _) (by omega))]) fu 0 (-1, oB.1 6 - 1) (by omega) (by unfold fu; omega) ⟨rfl, nb.sub b1 (by decide)⟩
  rw [← h2.1]
  exact h1
set_option maxHeartbeats 4000000 in
theorem poor_m {oB oR oM : St} {n q : Nat} (hw : wB oB n) (hm : mB oM oB n) (hR : RQ oR oM n q) : f_X7_poorest oM = some (wkS (oB.1 6).toInt (cO oM n) q).1 := by
  have hn := hw.1
  obtain ⟨r1, r2, r3, r4, r5, r6⟩ := hR
  have nb := need_b hw
  obtain ⟨hnd, -⟩ := bnd_m hm
  obtain ⟨s, h1, h2⟩ := lpn (fun fuel k (s : Int32) => f_X7_poorest_L4 oM fuel s (nI k)) (fun s => some s) q (fun k s => s = (wkS (oB.1 6).toInt (cO oM n) k).1) (by
    intro fuel k s hk hs
    have hle : cO oM n k ≤ 14 := pc_le _
    have bc : bI (nI (cO oM n k)) (cO oM n k : Int) 15 := bnI (by omega) (by decide)
    refine ⟨(wkS (oB.1 6).toInt (cO oM n) (k + 1)).1, ?_, rfl⟩
    show f_X7_poorest_L4 oM (fuel + 1) s (nI k) = f_X7_poorest_L4 oM fuel (wkS (oB.1 6).toInt (cO oM n) (k + 1)).1 (nI (k + 1))
    rw [f_X7_poorest_L4_s, r2, if_neg (nI_ge hk (by omega)), ownOf_m hn hm.2.2.1, bn1_s, size_m, bn1_s, hnd, bn1_s, hs, nI_1, wkS_s]
    have e : oB.1 6 ≤ nI (pc (bs (fun j => decide (oM.2.2 15 j = nI k)) n)) ↔ (oB.1 6).toInt ≤ (cO oM n k : Int) := nb.le bc
    rcases wkS_is (oB.1 6).toInt (cO oM n) k with h | ⟨p, hp, h, h3⟩
    · rw [h]
      by_cases c : (oB.1 6).toInt ≤ (cO oM n k : Int)
      · rw [if_pos (e.mpr c), if_neg (show ¬ (cO oM n k : Int) ≤ (oB.1 6).toInt - 1 by omega)]
      · rw [if_neg (fun z => c (e.mp z)), if_pos rfl, if_pos (show (cO oM n k : Int) ≤ (oB.1 6).toInt - 1 by omega)]
    · have hlp : cO oM n p ≤ 14 := pc_le _
      have bp : bI (nI (cO oM n p)) (cO oM n p : Int) 15 := bnI (by omega) (by decide)
      have e2 : nI (pc (bs (fun j => decide (oM.2.2 15 j = nI p)) n)) < nI (pc (bs (fun j => decide (oM.2.2 15 j = nI k)) n)) ↔ (cO oM n p : Int) < (cO oM n k : Int) := bp.lt bc
      have hne : ¬ nI p = (-1 : Int32) := fun z => m1_nI (show p < 1000 by omega) z.symm
      rw [h, if_neg hne, ownOf_m hn hm.2.2.1, bn1_s, size_m, bn1_s]
      by_cases c : (oB.1 6).toInt ≤ (cO oM n k : Int)
      · rw [if_pos (e.mpr c), if_neg (show ¬ (cO oM n k : Int) ≤ (cO oM n p : Int) by omega)]
      · rw [if_neg (fun z => c (e.mp z))]
        by_cases c2 : (cO oM n p : Int) < (cO oM n k : Int)
        · rw [if_pos (e2.mpr c2), if_neg (show ¬ (cO oM n k : Int) ≤ (cO oM n p : Int) by omega)]
        · rw [if_neg (fun z => c2 (e2.mp z)), if_pos (show (cO oM n k : Int) ≤ (cO oM n p : Int) by omega)]) (by
    intro fuel s hs
    show f_X7_poorest_L4 oM (fuel + 1) s (nI q) = _
    rw [f_X7_poorest_L4_s, r2, if_pos (nI_le (Nat.le_refl _) (by omega))]) fu 0 (-1) (by omega) (by unfold fu; omega) rfl
  rw [← h2]
  exact h1
/-! a ring given up -/
def sh (kk : Nat → Nat) (p : Nat) : Nat → Nat := fun i => if i < p then kk i else kk (i + 1)
theorem give_c {oR : St} {q p : Nat} (hq : q ≤ 7) (h4 : oR.1 4 = nI q) (hp : p < q) : ∃ oR', f_X3_giveUp oR (nI p) = some oR' ∧ oR'.1 4 = nI (q - 1) ∧ oR'.1 3 = oR.1 3 ∧ ∀ i, i < q - 1 → oR'.2.2 5 i = if i < p then oR.2.2 5 i else oR.2.2 5 (i + 1) := by
  unfold f_X3_giveUp
  rw [has_r hq h4, bn1_s, isJ_nI hp (by omega), if_neg (by decide)]
  obtain ⟨s, h1, h2⟩ := lpn (fun fuel k (s : St) => f_X3_giveUp_L11 (fun (oR9 : St) => some ((sI oR9 4 ((oR9.1 4) - 1)))) fuel (nI k) s) (fun s => some ((sI s 4 ((s.1 4) - 1)))) (q - 1) (fun k s => p ≤ k ∧ s.1 = oR.1 ∧ (∀ i, i < k → s.2.2 5 i = if i < p then oR.2.2 5 i else oR.2.2 5 (i + 1)) ∧ ∀ i, k ≤ i → s.2.2 5 i = oR.2.2 5 i) (by
    intro fuel k s hk hs
    obtain ⟨a0, a1, a2, a3⟩ := hs
    refine ⟨sR s 5 (upd (s.2.2 5) k (s.2.2 5 (k + 1))), ?_, by omega, a1, fun i hi => ?_, fun i hi => ?_⟩
    · show f_X3_giveUp_L11 (fun (oR9 : St) => some ((sI oR9 4 ((oR9.1 4) - 1)))) (fuel + 1) (nI k) s = f_X3_giveUp_L11 (fun (oR9 : St) => some ((sI oR9 4 ((oR9.1 4) - 1)))) fuel (nI (k + 1)) (sR s 5 (upd (s.2.2 5) k (s.2.2 5 (k + 1))))
      rw [f_X3_giveUp_L11_s, a1, h4, nI_1, if_neg (nI_ge (show k + 1 < q by omega) (by omega)), ag_n (show k + 1 < 7 by omega) (by decide), bn1_s, aw_n (show k < 7 by omega) (by decide), bn1_s]
    · show upd (s.2.2 5) k (s.2.2 5 (k + 1)) i = _
      rw [upd_e]
      by_cases e : i = k
      · rw [if_pos e, e, if_neg (by omega), a3 (k + 1) (by omega)]
      · rw [if_neg e]; exact a2 i (by omega)
    · show upd (s.2.2 5) k (s.2.2 5 (k + 1)) i = _
      rw [upd_e, if_neg (by omega)]
      exact a3 i (by omega)) (by
    intro fuel s hs
    show f_X3_giveUp_L11 (fun (oR9 : St) => some ((sI oR9 4 ((oR9.1 4) - 1)))) (fuel + 1) (nI (q - 1)) s = _
    rw [f_X3_giveUp_L11_s, hs.2.1, h4, nI_1, if_pos (nI_le (show q ≤ q - 1 + 1 by omega) (by omega))]) fu p oR (by omega) (by unfold fu; omega) ⟨Nat.le_refl _, rfl, fun i hi => by rw [if_pos hi], fun _ _ => rfl⟩
  obtain ⟨a0, a1, a2, a3⟩ := h2
  refine ⟨_, h1, ?_, ?_, a2⟩
  · show s.1 4 - 1 = _
    rw [a1, h4, show q = q - 1 + 1 by omega, nI_s1]
    rfl
  · show s.1 3 = _
    rw [a1]
def oMr (oM oM' : St) : Prop := oM'.1 = oM.1 ∧ ∀ k, k < 12 ∨ 14 < k → oM'.2.2 k = oM.2.2 k
theorem give_m {oM : St} {q p : Nat} (hq : q < 7) (h11 : oM.1 11 = nI q) (hp : p ≤ q) (K : St → Option (Int32 × St)) : ∃ oM', f_X7_splitNow_L26 K fu (nI p) oM = K oM' ∧ oMr oM oM' ∧ ∀ i, i < q → (oM'.2.2 12 i = if i < p then oM.2.2 12 i else oM.2.2 12 (i + 1)) ∧ (oM'.2.2 13 i = if i < p then oM.2.2 13 i else oM.2.2 13 (i + 1)) ∧ (oM'.2.2 14 i = if i < p then oM.2.2 14 i else oM.2.2 14 (i + 1)) := by
  obtain ⟨s, h1, h2⟩ := lpn (fun fuel k (s : St) => f_X7_splitNow_L26 K fuel (nI k) s) (fun s => K s) q (fun k s => p ≤ k ∧ oMr oM s ∧ (∀ i, i < k → (s.2.2 12 i = if i < p then oM.2.2 12 i else oM.2.2 12 (i + 1)) ∧ (s.2.2 13 i = if i < p then oM.2.2 13 i else oM.2.2 13 (i + 1)) ∧ (s.2.2 14 i = if i < p then oM.2.2 14 i else oM.2.2 14 (i + 1))) ∧ ∀ i, k ≤ i → s.2.2 12 i = oM.2.2 12 i ∧ s.2.2 13 i = oM.2.2 13 i ∧ s.2.2 14 i = oM.2.2 14 i) (by
    intro fuel k s hk hs
    obtain ⟨a0, a1, a2, a3⟩ := hs
    refine ⟨sR (sR (sR s 12 (upd (s.2.2 12) k (s.2.2 12 (k + 1)))) 13 (upd (s.2.2 13) k (s.2.2 13 (k + 1)))) 14 (upd (s.2.2 14) k (s.2.2 14 (k + 1))), ?_, by omega, ⟨a1.1, fun j hj => by rw [sR_3, sR_3, sR_3, if_neg (by omega), if_neg (by omega), if_neg (by omega)]; exact a1.2 j hj⟩, fun i hi => ?_, fun i hi => ?_⟩
    · show f_X7_splitNow_L26 K (fuel + 1) (nI k) s = f_X7_splitNow_L26 K fuel (nI (k + 1)) (sR (sR (sR s 12 (upd (s.2.2 12) k (s.2.2 12 (k + 1)))) 13 (upd (s.2.2 13) k (s.2.2 13 (k + 1)))) 14 (upd (s.2.2 14) k (s.2.2 14 (k + 1))))
      rw [f_X7_splitNow_L26_s, a1.1, h11, if_neg (nI_ge hk (by omega)), nI_1, ag_n (show k + 1 < 14 by omega) (by decide), bn1_s, aw_n (show k < 14 by omega) (by decide), bn1_s, ag_n (show k + 1 < 14 by omega) (by decide), bn1_s, aw_n (show k < 14 by omega) (by decide), bn1_s, ag_n (show k + 1 < 14 by omega) (by decide), bn1_s, aw_n (show k < 14 by omega) (by decide), bn1_s]
      rfl
    · show upd (s.2.2 12) k (s.2.2 12 (k + 1)) i = _ ∧ upd (s.2.2 13) k (s.2.2 13 (k + 1)) i = _ ∧ upd (s.2.2 14) k (s.2.2 14 (k + 1)) i = _
      rw [upd_e, upd_e, upd_e]
      by_cases e : i = k
      · obtain ⟨c1, c2, c3⟩ := a3 (k + 1) (by omega)
        rw [if_pos e, if_pos e, if_pos e, e, if_neg (by omega), if_neg (by omega), if_neg (by omega)]
        exact ⟨c1, c2, c3⟩
      · rw [if_neg e, if_neg e, if_neg e]; exact a2 i (by omega)
    · show upd (s.2.2 12) k (s.2.2 12 (k + 1)) i = _ ∧ upd (s.2.2 13) k (s.2.2 13 (k + 1)) i = _ ∧ upd (s.2.2 14) k (s.2.2 14 (k + 1)) i = _
      rw [upd_e, upd_e, upd_e, if_neg (by omega), if_neg (by omega), if_neg (by omega)]
      exact a3 i (by omega)) (by
    intro fuel s hs
    show f_X7_splitNow_L26 K (fuel + 1) (nI q) s = _
    rw [f_X7_splitNow_L26_s, hs.2.1.1, h11, if_pos (nI_le (Nat.le_refl _) (by omega))]) fu p oM (by omega) (by unfold fu; omega) ⟨Nat.le_refl _, ⟨rfl, fun _ _ => rfl⟩, fun i hi => by rw [if_pos hi, if_pos hi, if_pos hi]; exact ⟨rfl, rfl, rfl⟩, fun _ _ => ⟨rfl, rfl, rfl⟩⟩
  exact ⟨s, h1, h2.2.1, h2.2.2.1⟩
set_option maxHeartbeats 8000000 in
theorem split_L {oB : St} {n : Nat} (hw : wB oB n) :
    ∀ (q pass fc fm : Nat) (oR oG oM : St) (kk : Nat → Nat), pass + q ≤ 7 → q < fc → q < fm → mB oM oB n → oR.1 4 = nI q → oM.1 11 = nI q → RK oR oM q kk →
      ∃ oR' oG' oM' q', f_X3_tellOffAnew_L2 oB fc (nI pass) oR oG = some (oR', oG') ∧ (bn1 (f_X7_tellOff oM) fun oM1 => bn1 (f_X7_poorest oM1) fun x3 => f_X7_splitNow_L9 fm x3 oM1) = some (nI q', oM') ∧ RQ oR' oM' n q' ∧ q' ≤ q ∧ oM'.1 17 = oM.1 17 + nI (q - q') ∧ oR'.1 3 = oR.1 3 ∧ rM oM oM' ∧ oM'.1 10 = oM.1 10 ∧ oM'.1 16 = oM.1 16
  | q, pass, 0, fm, oR, oG, oM, kk, _, h, _, _, _, _, _ => by omega
  | q, pass, fc + 1, 0, oR, oG, oM, kk, _, _, h, _, _, _, _ => by omega
  | q, pass, fc + 1, fm + 1, oR, oG, oM, kk, hp, hfc, hfm, hm, h4, h11, hK => by
    have hn := hw.1
    obtain ⟨oR1, oG1, g1, g2, g3⟩ := told_c hw (by omega) h4 hK oG
    obtain ⟨oM1, k1, k2, k3⟩ := told_m hw hm (by omega) h11 hK
    have hm1 := hm.r k2.r
    have hK1 : RK oR1 oM1 q kk := (hK.c g2).m k2
    have hR1 : RQ oR1 oM1 n q := by
      refine ⟨by rw [g2.1, h4], by rw [k2.1, h11], by omega, fun i hi => ?_, fun i hi => ?_, fun j hj => ?_⟩
      · obtain ⟨b1, b2, b3⟩ := hK1 i hi
        exact ⟨kk i, b1, b2, b3⟩
      · rw [g3 i hi]
        exact bs_cong (fun j hj => by rw [k3 j hj])
      · rw [k3 j hj]; exact nS_is oB kk q j
    rw [f_X3_tellOffAnew_L2_s, if_neg (show ¬ (7 : Int32) < nI pass from nI_nlt (a := 7) (by omega) (by decide)), g1, bn2_s, weak_c hw hR1, bn1_s, k1, bn1_s, poor_m hw hm1 hR1, bn1_s, f_X7_splitNow_L9_s]
    rcases wkS_is (oB.1 6).toInt (cO oM1 n) q with h | ⟨p, hp2, h, -⟩
    · rw [h, if_pos rfl, if_pos rfl, hR1.2.1]
      refine ⟨_, _, _, q, rfl, rfl, hR1, Nat.le_refl _, ?_, by rw [g2.1], k2.r, by rw [k2.1], by rw [k2.1]⟩
      rw [k2.1, Nat.sub_self, show nI 0 = 0 from rfl, Int32.add_zero]
    · have hne : ¬ nI p = (-1 : Int32) := fun z => m1_nI (show p < 1000 by omega) z.symm
      rw [h, if_neg hne, if_neg hne]
      obtain ⟨oR2, w1, w2, w3, w4⟩ := give_c (by omega) hR1.1 hp2
      have e11 : (sI oM1 11 (oM1.1 11 - 1)).1 11 = nI (q - 1) := by
        show oM1.1 11 - 1 = _
        rw [hR1.2.1, show q = q - 1 + 1 by omega, nI_s1]
        rfl
      obtain ⟨oM2, u1, u2, u3⟩ := give_m (oM := sI oM1 11 (oM1.1 11 - 1)) (q := q - 1) (by omega) e11 (show p ≤ q - 1 by omega) (fun (oM19 : St) =>
          bn1 (f_X7_tellOff ((sI oM19 17 ((oM19.1 17) + 1)))) fun oM20 =>
          bn1 (f_X7_poorest oM20) fun x22 =>
          f_X7_splitNow_L9 fm x22 oM20)
      rw [w1, bn1_s, u1, nI_1]
      have hr2 : rM oM (sI oM2 17 (oM2.1 17 + 1)) := ((k2.r.tr ((rM.rf oM1).i _ (by omega))).tr ⟨fun k hk => by rw [u2.1], fun k hk => u2.2 k (by omega)⟩).i _ (by omega)
      have z11 : (sI oM2 17 (oM2.1 17 + 1)).1 11 = nI (q - 1) := by
        show oM2.1 11 = _
        rw [u2.1, e11]
      have z17 : (sI oM2 17 (oM2.1 17 + 1)).1 17 = oM.1 17 + 1 := by
        show oM2.1 17 + 1 = _
        rw [u2.1]
        show oM1.1 17 + 1 = _
        rw [k2.1]
      have z10 : (sI oM2 17 (oM2.1 17 + 1)).1 10 = oM.1 10 := by
        show oM2.1 10 = _
        rw [u2.1]
        show oM1.1 10 = _
        rw [k2.1]
      have z16 : (sI oM2 17 (oM2.1 17 + 1)).1 16 = oM.1 16 := by
        show oM2.1 16 = _
        rw [u2.1]
        show oM1.1 16 = _
        rw [k2.1]
      have hK2 : RK oR2 (sI oM2 17 (oM2.1 17 + 1)) (q - 1) (sh kk p) := by
        intro i hi
        obtain ⟨v1, v2, v3⟩ := u3 i hi
        have v1 : oM2.2.2 12 i = if i < p then oM1.2.2 12 i else oM1.2.2 12 (i + 1) := v1
        have v2 : oM2.2.2 13 i = if i < p then oM1.2.2 13 i else oM1.2.2 13 (i + 1) := v2
        have v3 : oM2.2.2 14 i = if i < p then oM1.2.2 14 i else oM1.2.2 14 (i + 1) := v3
        show sh kk p i < 32768 ∧ oR2.2.2 5 i = nI (sh kk p i) ∧ oM2.2.2 12 i = nI (sh kk p i % 32) ∧ oM2.2.2 13 i = nI (sh kk p i / 32 % 32) ∧ oM2.2.2 14 i = nI (sh kk p i / 1024 % 32)
        rw [w4 i hi, v1, v2, v3]
        unfold sh
        by_cases c : i < p
        · rw [if_pos c, if_pos c, if_pos c, if_pos c, if_pos c]; exact hK1 i (by omega)
        · rw [if_neg c, if_neg c, if_neg c, if_neg c, if_neg c]; exact hK1 (i + 1) (by omega)
      obtain ⟨oR', oG', oM', q', y1, y2, y3, y4, y5, y6, y7, y8, y9⟩ := split_L hw (q - 1) (pass + 1) fc fm oR2 oG1 (sI oM2 17 (oM2.1 17 + 1)) (sh kk p) (by omega) (by omega) (by omega) (hm.r hr2) w2 z11 hK2
      refine ⟨oR', oG', oM', q', y1, y2, y3, by omega, ?_, ?_, hr2.tr y7, ?_, ?_⟩
      · rw [y5, z17, Int32.add_assoc, show (1 : Int32) = nI 1 from rfl, nI_add, show 1 + (q - 1 - q') = q - q' by omega]
      · rw [y6, w3, g2.1]
      · rw [y8, z10]
      · rw [y9, z16]
set_option maxHeartbeats 4000000 in
theorem op_split {oX oP oR oT oB oM : St} (h : REL oX oP oR oT oB oM) (oG : St) : ∃ r oX' oR' oG' oM', f_X6_split oX oR oB oG = some (r, oX', oR', oG') ∧ f_X7_split oM = some (r, oM') ∧ REL oX' oP oR' oT oB oM' := by
  have h0 := h
  obtain ⟨n, hw, hm, hT, hp, hR, c6, c7, c8⟩ := h
  unfold f_X6_split f_X7_split
  rcases hR with ⟨r1, r2, r3⟩ | ⟨r1, r2, q, r3⟩
  · rw [if_pos r1, if_pos r2]
    exact ⟨_, _, _, _, _, rfl, rfl, h0⟩
  · rw [r1, r2, if_neg (by decide), if_neg (by decide)]
    obtain ⟨s1, s2, s3, s4, s5, s6⟩ := r3
    have hK : RK oR oM q (fun i => (oR.2.2 5 i).toNatClampNeg) := by
      intro i hi
      obtain ⟨k, k1, k2, k3⟩ := s4 i hi
      obtain ⟨e1, e2⟩ := clamp_nI k2 (by omega)
      dsimp only
      rw [e2]
      exact ⟨k1, k2, k3⟩
    obtain ⟨oR', oG', oM', q', y1, y2, y3, y4, y5, y6, y7, y8, y9⟩ := split_L hw q 0 fu fu oR oG oM _ (by omega) (by unfold fu; omega) (by unfold fu; omega) hm s1 s2 hK
    unfold f_X3_tellOffAnew f_X7_splitNow
    have y1 : f_X3_tellOffAnew_L2 oB fu 0 oR oG = some (oR', oG') := y1
    rw [y1, bn2_s, y2, bn2_s, bn1_s, s1, y3.1]
    refine ⟨_, _, _, _, _, rfl, rfl, n, hw, hm.r y7, hT, hp.r y7, Or.inr ⟨by rw [y6, r1], by rw [y8, r2], q', y3⟩, ?_, ?_, ?_⟩
    · show oX.1 6 = _
      rw [y7.1 4 (by omega)]; exact c6
    · show oX.1 7 = _
      rw [y9]; exact c7
    · show oX.1 8 + (nI q - nI q') = _
      rw [y5, nI_sub y4, c8]
