/-! whose the dots are -/
def oM15 (oM oM' : St) : Prop := oM'.1 = oM.1 ∧ ∀ k, k ≠ 15 → oM'.2.2 k = oM.2.2 k
theorem oM15.r {oM oM' : St} (h : oM15 oM oM') : rM oM oM' := ⟨fun k _ => by rw [h.1], fun k hk => h.2 k (by omega)⟩
theorem own_L {oM : St} {n : Nat} (hn : n ≤ 14) (h5 : oM.1 5 = nI n) (v1 set : Int32) (K : St → Option (Int32 × St)) : ∃ oM', f_X7_huntNow_L140 v1 set K fu 0 oM = K oM' ∧ oM15 oM oM' ∧ ∀ j, j < n → oM'.2.2 15 j = if bt set j then oM.1 11 else oM.2.2 15 j := by
  obtain ⟨s, h1, h2⟩ := lpn (fun fuel k (s : St) => f_X7_huntNow_L140 v1 set K fuel (nI k) s) (fun s => K s) n (fun k s => oM15 oM s ∧ (∀ j, j < k → s.2.2 15 j = if bt set j then oM.1 11 else oM.2.2 15 j) ∧ ∀ j, k ≤ j → s.2.2 15 j = oM.2.2 15 j) (by
    intro fuel k s hk hs
    obtain ⟨a1, a2, a3⟩ := hs
    refine ⟨sR s 15 (upd (s.2.2 15) k (if bt set k then oM.1 11 else oM.2.2 15 k)), ?_, ⟨a1.1, fun q hq => by rw [sR_3, if_neg hq]; exact a1.2 q hq⟩, fun j hj => ?_, fun j hj => ?_⟩
    · show f_X7_huntNow_L140 v1 set K (fuel + 1) (nI k) s = f_X7_huntNow_L140 v1 set K fuel (nI (k + 1)) (sR s 15 (upd (s.2.2 15) k (if bt set k then oM.1 11 else oM.2.2 15 k)))
      rw [f_X7_huntNow_L140_s, a1.1, h5, if_neg (nI_ge hk (by omega)), nI_1]
      by_cases c : bt set k = true
      · rw [if_pos ((b_is set (by omega)).mpr c), aw_n (show k < 14 by omega) (by decide), bn1_s, if_pos c]
      · rw [if_neg (fun z => c ((b_is set (by omega)).mp z)), ag_n (show k < 14 by omega) (by decide), bn1_s, aw_n (show k < 14 by omega) (by decide), bn1_s, if_neg c, a3 k (Nat.le_refl _)]
    · show upd (s.2.2 15) k _ j = _
      rw [upd_e]
      by_cases e : j = k
      · rw [if_pos e, e]
      · rw [if_neg e]; exact a2 j (by omega)
    · show upd (s.2.2 15) k _ j = _
      rw [upd_e, if_neg (by omega)]
      exact a3 j (by omega)) (by
    intro fuel s hs
    show f_X7_huntNow_L140 v1 set K (fuel + 1) (nI n) s = _
    rw [f_X7_huntNow_L140_s, hs.1.1, h5, if_pos (nI_le (Nat.le_refl _) (by omega))]) fu 0 oM (by omega) (by unfold fu; omega) ⟨⟨rfl, fun _ _ => rfl⟩, fun j hj => by omega, fun j _ => rfl⟩
  exact ⟨s, h1, h2.1, h2.2.1⟩
theorem none_L {oM : St} {n : Nat} (hn : n ≤ 14) (h5 : oM.1 5 = nI n) (v1 : Int32) (K : St → Option (Int32 × St)) : ∃ oM', f_X7_huntNow_L35 v1 K fu 0 oM = K oM' ∧ oM15 oM oM' ∧ ∀ j, j < n → oM'.2.2 15 j = -1 := by
  obtain ⟨s, h1, h2⟩ := lpn (fun fuel k (s : St) => f_X7_huntNow_L35 v1 K fuel (nI k) s) (fun s => K s) n (fun k s => oM15 oM s ∧ ∀ j, j < k → s.2.2 15 j = -1) (by
    intro fuel k s hk hs
    obtain ⟨a1, a2⟩ := hs
    refine ⟨sR s 15 (upd (s.2.2 15) k (-1)), ?_, ⟨a1.1, fun q hq => by rw [sR_3, if_neg hq]; exact a1.2 q hq⟩, fun j hj => ?_⟩
    · show f_X7_huntNow_L35 v1 K (fuel + 1) (nI k) s = f_X7_huntNow_L35 v1 K fuel (nI (k + 1)) (sR s 15 (upd (s.2.2 15) k (-1)))
      rw [f_X7_huntNow_L35_s, a1.1, h5, if_neg (nI_ge hk (by omega)), nI_1, aw_n (show k < 14 by omega) (by decide), bn1_s]
    · show upd (s.2.2 15) k _ j = _
      rw [upd_e]
      by_cases e : j = k
      · rw [if_pos e]
      · rw [if_neg e]; exact a2 j (by omega)) (by
    intro fuel s hs
    show f_X7_huntNow_L35 v1 K (fuel + 1) (nI n) s = _
    rw [f_X7_huntNow_L35_s, hs.1.1, h5, if_pos (nI_le (Nat.le_refl _) (by omega))]) fu 0 oM (by omega) (by unfold fu; omega) ⟨⟨rfl, fun _ _ => rfl⟩, fun j hj => by omega⟩
  exact ⟨s, h1, h2⟩
theorem m1_nI {i : Nat} (h : i < 1000) : ¬ (-1 : Int32) = nI i := by
  rw [← Int32.toInt_inj, nI_toInt (by omega)]
  show ¬ (-1 : Int) = (i : Int)
  omega
theorem pc_split {a b c : Int32} (h1 : ∀ j, j < 14 → bt a j = (bt b j || bt c j)) (h2 : ∀ j, j < 14 → ¬ (bt b j = true ∧ bt c j = true)) : pc a = pc b + pc c := by
  unfold pc
  rw [← fb_ct_or h2]
  exact fb_ct_cong h1
theorem pc_sub {a b : Int32} (h : ∀ j, j < 14 → bt a j = true → bt b j = true) : pc a ≤ pc b := fb_ct_sub h
set_option maxHeartbeats 8000000 in
/-- hunting: both keep the same rings -/
theorem hunt_L {oB oT : St} {n Z : Nat} {E : Nat → Nat} (hw : wB oB n) (hW : 0 < (oB.1 0).toInt) (hZ : Z ≤ 364) (h4 : oT.1 4 = nI Z) (hb : ∀ i, i < Z → E i < 11960320) (h8 : ∀ i, i < Z → oT.2.2 8 i = nI (E i) ∧ oT.2.2 9 i = suS oB (E i % 32) (E i / 32 % 32) (E i / 1024 % 32) n) :
    ∀ (d q fc fm : Nat) (oR oG oM : St) (free : Int32), q + d = 7 → d < fc → d < fm → mB oM oB n → oM.1 36 = nI Z → eT oM Z E → RQ oR oM n q → (∀ j, j < 32 → bt free j = (decide (j < n) && decide (oM.2.2 15 j = -1))) → 2 * q + pc free ≤ 14 →
      ∃ oR' oG' oM' q', f_X3_keepBest_L22 oT oB fc free oR oG = some (oR', oG') ∧ f_X7_huntNow_L62 fm free (bpS oB n E free Z).1 oM = some (nI q', oM') ∧ RQ oR' oM' n q' ∧ oR'.1 3 = oR.1 3 ∧ rM oM oM' ∧ oM'.1 10 = oM.1 10 ∧ oM'.1 16 = oM.1 16 ∧ oM'.1 17 = oM.1 17
  | d, q, 0, fm, oR, oG, oM, free, _, h, _, _, _, _, _, _, _ => by omega
  | d, q, fc + 1, 0, oR, oG, oM, free, _, _, h, _, _, _, _, _, _ => by omega
  | d, q, fc + 1, fm + 1, oR, oG, oM, free, hq, hfc, hfm, hm, h36, hE, hR, hfr, hcnt => by
    have hn := hw.1
    have hnd : 2 ≤ (oB.1 6).toInt := (hw.2.2.2.2.2.2.2.2.2.2.2 hW).1
    rw [f_X3_keepBest_L22_s, f_X7_huntNow_L62_s, hR.1]
    have stop : bpS oB n E free Z = (-1, 0) → ∃ q', (if (bpS oB n E free Z).1 = -1 then some (oM.1 11, oM) else none) = some (nI q', oM) ∧ q' = q := fun h => ⟨q, by rw [h, if_pos rfl, hR.2.1], rfl⟩
    cases d with
    | zero =>
      have e7 : q = 7 := by omega
      have hnone : bpS oB n E free Z = (-1, 0) := by
        apply bp_none
        intro p hp
        unfold wtS
        rw [if_pos]
        left
        have : pc (sfS oB n (E p) free) ≤ pc free := pc_sub (fun j hj h => by
          unfold sfS at h
          rw [b_and] at h
          exact (Bool.and_eq_true _ _ ▸ h : _ ∧ _).2)
        omega
      rw [if_pos (show (7 : Int32) ≤ nI q by rw [e7]; decide), hnone, if_pos rfl, hR.2.1]
      exact ⟨_, _, _, q, rfl, rfl, hR, rfl, rM.rf _, rfl, rfl, rfl⟩
    | succ d =>
      rw [if_neg (show ¬ (7 : Int32) ≤ nI q from nI_ge (b := 7) (by omega) (by decide))]
      obtain ⟨oG1, g1⟩ := best_c hw hZ h4 hb h8 oG free
      rw [g1, bn2_s]
      rcases bp_is oB n E free Z with h | ⟨p, p1, p2, p3⟩
      · rw [h, if_pos rfl, if_pos rfl, hR.2.1]
        exact ⟨_, _, _, q, rfl, rfl, hR, rfl, rM.rf _, rfl, rfl, rfl⟩
      · obtain ⟨r1, r2, r3, r4, r5, r6⟩ := hR
        obtain ⟨a1, a2, a3, a4, a5⟩ := hE p p1
        have hbp := hb p p1
        rw [p2, if_neg (fun z => m1_nI (show p < 1000 by omega) z.symm), if_neg (fun z => m1_nI (show p < 1000 by omega) z.symm)]
        -- the class
        rw [keyAt_n (show p < 364 by omega) (h8 p p1).1, bn1_s, aw_n (show q < 7 by omega) (by decide), bn1_s, ag_n (show p < 364 by omega) (by decide), bn1_s, (h8 p p1).2]
        rw [show suS oB (E p % 32) (E p / 32 % 32) (E p / 1024 % 32) n &&& free = sfS oB n (E p) free from rfl]
        rw [show (sR oR 5 (upd (oR.2.2 5) q (nI (E p % 32768)))).1 4 = nI q from r1, aw_n (show q < 7 by omega) (by decide), bn1_s]
        rw [show ∀ f, (sR (sR oR 5 (upd (oR.2.2 5) q (nI (E p % 32768)))) 6 f).1 4 = nI q from fun _ => r1]
        rw [ag_n (show q < 7 by omega) (by decide), bn1_s, nI_1]
        rw [show (sR (sR oR 5 (upd (oR.2.2 5) q (nI (E p % 32768)))) 6 (upd ((sR oR 5 (upd (oR.2.2 5) q (nI (E p % 32768)))).2.2 6) q (sfS oB n (E p) free))).2.2 6 q = sfS oB n (E p) free from by
          show upd (oR.2.2 6) q (sfS oB n (E p) free) q = _
          rw [upd_e, if_pos rfl]]
        -- the reference
        simp only [ag_n (show p < 364 by omega) (by decide : 364 < 2 ^ 31), bn1_s, a1, a2, a3]
        rw [sups_m hw hm (by omega) (by omega) (by omega), bn1_s]
        rw [show suS oB (E p % 32) (E p / 32 % 32) (E p / 1024 % 32) n &&& free = sfS oB n (E p) free from rfl]
        rw [r2, aw_n (show q < 14 by omega) (by decide), bn1_s]
        rw [show (sR oM 12 (upd (oM.2.2 12) q (nI (E p % 32)))).2.2 40 p = nI (E p / 32 % 32) from a2, show (sR oM 12 (upd (oM.2.2 12) q (nI (E p % 32)))).1 11 = nI q from r2, aw_n (show q < 14 by omega) (by decide), bn1_s]
        rw [show ∀ f, (sR (sR oM 12 (upd (oM.2.2 12) q (nI (E p % 32)))) 13 f).2.2 41 p = nI (E p / 1024 % 32) from fun _ => a3, show ∀ f, (sR (sR oM 12 (upd (oM.2.2 12) q (nI (E p % 32)))) 13 f).1 11 = nI q from fun _ => r2, aw_n (show q < 14 by omega) (by decide), bn1_s]
        have hrm : rM oM (sR (sR (sR oM 12 (upd (oM.2.2 12) q (nI (E p % 32)))) 13 (upd ((sR oM 12 (upd (oM.2.2 12) q (nI (E p % 32)))).2.2 13) q (nI (E p / 32 % 32)))) 14 (upd ((sR (sR oM 12 (upd (oM.2.2 12) q (nI (E p % 32)))) 13 (upd ((sR oM 12 (upd (oM.2.2 12) q (nI (E p % 32)))).2.2 13) q (nI (E p / 32 % 32)))).2.2 14) q (nI (E p / 1024 % 32)))) := (((rM.rf oM).r _ (by omega)).r _ (by omega)).r _ (by omega)
        have y1 : ∀ i, i < q → (sR (sR (sR oM 12 (upd (oM.2.2 12) q (nI (E p % 32)))) 13 (upd ((sR oM 12 (upd (oM.2.2 12) q (nI (E p % 32)))).2.2 13) q (nI (E p / 32 % 32)))) 14 (upd ((sR (sR oM 12 (upd (oM.2.2 12) q (nI (E p % 32)))) 13 (upd ((sR oM 12 (upd (oM.2.2 12) q (nI (E p % 32)))).2.2 13) q (nI (E p / 32 % 32)))).2.2 14) q (nI (E p / 1024 % 32)))).2.2 12 i = oM.2.2 12 i ∧ (sR (sR (sR oM 12 (upd (oM.2.2 12) q (nI (E p % 32)))) 13 (upd ((sR oM 12 (upd (oM.2.2 12) q (nI (E p % 32)))).2.2 13) q (nI (E p / 32 % 32)))) 14 (upd ((sR (sR oM 12 (upd (oM.2.2 12) q (nI (E p % 32)))) 13 (upd ((sR oM 12 (upd (oM.2.2 12) q (nI (E p % 32)))).2.2 13) q (nI (E p / 32 % 32)))).2.2 14) q (nI (E p / 1024 % 32)))).2.2 13 i = oM.2.2 13 i ∧ (sR (sR (sR oM 12 (upd (oM.2.2 12) q (nI (E p % 32)))) 13 (upd ((sR oM 12 (upd (oM.2.2 12) q (nI (E p % 32)))).2.2 13) q (nI (E p / 32 % 32)))) 14 (upd ((sR (sR oM 12 (upd (oM.2.2 12) q (nI (E p % 32)))) 13 (upd ((sR oM 12 (upd (oM.2.2 12) q (nI (E p % 32)))).2.2 13) q (nI (E p / 32 % 32)))).2.2 14) q (nI (E p / 1024 % 32)))).2.2 14 i = oM.2.2 14 i := by
          intro i hi
          show upd (oM.2.2 12) q _ i = _ ∧ upd (oM.2.2 13) q _ i = _ ∧ upd (oM.2.2 14) q _ i = _
          rw [upd_e, upd_e, upd_e, if_neg (by omega), if_neg (by omega), if_neg (by omega)]
          exact ⟨rfl, rfl, rfl⟩
        have y2 : (sR (sR (sR oM 12 (upd (oM.2.2 12) q (nI (E p % 32)))) 13 (upd ((sR oM 12 (upd (oM.2.2 12) q (nI (E p % 32)))).2.2 13) q (nI (E p / 32 % 32)))) 14 (upd ((sR (sR oM 12 (upd (oM.2.2 12) q (nI (E p % 32)))) 13 (upd ((sR oM 12 (upd (oM.2.2 12) q (nI (E p % 32)))).2.2 13) q (nI (E p / 32 % 32)))).2.2 14) q (nI (E p / 1024 % 32)))).2.2 12 q = nI (E p % 32) ∧ (sR (sR (sR oM 12 (upd (oM.2.2 12) q (nI (E p % 32)))) 13 (upd ((sR oM 12 (upd (oM.2.2 12) q (nI (E p % 32)))).2.2 13) q (nI (E p / 32 % 32)))) 14 (upd ((sR (sR oM 12 (upd (oM.2.2 12) q (nI (E p % 32)))) 13 (upd ((sR oM 12 (upd (oM.2.2 12) q (nI (E p % 32)))).2.2 13) q (nI (E p / 32 % 32)))).2.2 14) q (nI (E p / 1024 % 32)))).2.2 13 q = nI (E p / 32 % 32) ∧ (sR (sR (sR oM 12 (upd (oM.2.2 12) q (nI (E p % 32)))) 13 (upd ((sR oM 12 (upd (oM.2.2 12) q (nI (E p % 32)))).2.2 13) q (nI (E p / 32 % 32)))) 14 (upd ((sR (sR oM 12 (upd (oM.2.2 12) q (nI (E p % 32)))) 13 (upd ((sR oM 12 (upd (oM.2.2 12) q (nI (E p % 32)))).2.2 13) q (nI (E p / 32 % 32)))).2.2 14) q (nI (E p / 1024 % 32)))).2.2 14 q = nI (E p / 1024 % 32) := by
          show upd (oM.2.2 12) q _ q = _ ∧ upd (oM.2.2 13) q _ q = _ ∧ upd (oM.2.2 14) q _ q = _
          rw [upd_e, upd_e, upd_e, if_pos rfl, if_pos rfl, if_pos rfl]
          exact ⟨rfl, rfl, rfl⟩
        have y3 : ∀ f g h, (sR (sR (sR oM 12 f) 13 g) 14 h).1 = oM.1 ∧ (sR (sR (sR oM 12 f) 13 g) 14 h).2.2 15 = oM.2.2 15 := fun _ _ _ => ⟨rfl, rfl⟩
        have y3 := y3 (upd (oM.2.2 12) q (nI (E p % 32))) (upd ((sR oM 12 (upd (oM.2.2 12) q (nI (E p % 32)))).2.2 13) q (nI (E p / 32 % 32))) (upd ((sR (sR oM 12 (upd (oM.2.2 12) q (nI (E p % 32)))) 13 (upd ((sR oM 12 (upd (oM.2.2 12) q (nI (E p % 32)))).2.2 13) q (nI (E p / 32 % 32)))).2.2 14) q (nI (E p / 1024 % 32)))
        generalize sR (sR (sR oM 12 (upd (oM.2.2 12) q (nI (E p % 32)))) 13 (upd ((sR oM 12 (upd (oM.2.2 12) q (nI (E p % 32)))).2.2 13) q (nI (E p / 32 % 32)))) 14 (upd ((sR (sR oM 12 (upd (oM.2.2 12) q (nI (E p % 32)))) 13 (upd ((sR oM 12 (upd (oM.2.2 12) q (nI (E p % 32)))).2.2 13) q (nI (E p / 32 % 32)))).2.2 14) q (nI (E p / 1024 % 32))) = oM2 at hrm y1 y2 y3 ⊢
        have hm2 := hm.r hrm
        obtain ⟨oM3, o1, o2, o3⟩ := own_L hn hm2.2.2.1 free (sfS oB n (E p) free) (fun (oM40 : St) =>
          bn1 (f_X7_bestSpot (sI oM40 11 (oM40.1 11 + 1)) (free &&& (sfS oB n (E p) free ^^^ (-1)))) fun x43 =>
          f_X7_huntNow_L62 fm (free &&& (sfS oB n (E p) free ^^^ (-1))) x43 (sI oM40 11 (oM40.1 11 + 1)))
        rw [o1]
        have hrm4 : rM oM (sI oM3 11 (oM3.1 11 + 1)) := (hrm.tr o2.r).i _ (by omega)
        have hm4 := hm.r hrm4
        have z11 : (sI oM3 11 (oM3.1 11 + 1)).1 11 = nI (q + 1) := by
          show oM3.1 11 + 1 = _
          rw [o2.1, y3.1, r2, nI_1]
        have z15 : (sI oM3 11 (oM3.1 11 + 1)).2.2 15 = oM3.2.2 15 := rfl
        have zR : ∀ k, k ≠ 15 → (sI oM3 11 (oM3.1 11 + 1)).2.2 k = oM2.2.2 k := fun k hk => o2.2 k hk
        have zI : ∀ k, k ≠ 11 → (sI oM3 11 (oM3.1 11 + 1)).1 k = oM.1 k := fun k hk => by rw [sI_1, if_neg hk, o2.1, y3.1]
        generalize sI oM3 11 (oM3.1 11 + 1) = oM4 at hrm4 hm4 z11 z15 zR zI ⊢
        have h364 : oM4.1 36 = nI Z := by rw [zI 36 (by omega), h36]
        have hE4 := hE.r hrm4
        rw [best_m hw hm4 hZ h364 hE4, bn1_s]
        -- the sets
        have o15 : ∀ j, j < n → oM4.2.2 15 j = if bt (sfS oB n (E p) free) j then nI q else oM.2.2 15 j := fun j hj => by rw [z15, o3 j hj, y3.1, y3.2, r2]
        have hset : ∀ j, j < 32 → bt (sfS oB n (E p) free) j = true → j < n ∧ oM.2.2 15 j = -1 := by
          intro j hj h
          unfold sfS at h
          rw [b_and, Bool.and_eq_true] at h
          have h2 := h.2
          rw [hfr j hj, Bool.and_eq_true] at h2
          exact ⟨by simpa using h2.1, by simpa using h2.2⟩
        have hmany : 2 ≤ pc (sfS oB n (E p) free) := by
          unfold wtS at p3
          by_cases c : (pc (sfS oB n (E p) free) : Int) < (oB.1 6).toInt ∨ (spS oB (E p % 32) (E p / 32 % 32) n (sfS oB n (E p) free) : Int) < (oB.1 7).toInt
          · rw [if_pos c] at p3; omega
          · omega
        have hf2 : ∀ j, j < 32 → bt (free &&& (sfS oB n (E p) free ^^^ (-1))) j = (bt free j && !bt (sfS oB n (E p) free) j) := by
          intro j hj
          rw [b_and, b_xor, b_m1 j hj, Bool.xor_true]
        have hpc : pc free = pc (sfS oB n (E p) free) + pc (free &&& (sfS oB n (E p) free ^^^ (-1))) := by
          apply pc_split
          · intro j hj
            rw [hf2 j (by omega)]
            by_cases c : bt (sfS oB n (E p) free) j = true
            · have c2 := c
              unfold sfS at c2
              rw [b_and, Bool.and_eq_true] at c2
              rw [c, c2.2]; rfl
            · rw [Bool.not_eq_true] at c
              rw [c]; simp
          · intro j hj h
            rw [hf2 j (by omega), h.1] at h
            simp at h
        obtain ⟨oR', oG', oM', q', w1, w2, w3, w4, w5, w6, w7, w8⟩ := hunt_L hw hW hZ h4 hb h8 d (q + 1) fc fm (sI (sR (sR oR 5 (upd (oR.2.2 5) q (nI (E p % 32768)))) 6 (upd ((sR oR 5 (upd (oR.2.2 5) q (nI (E p % 32768)))).2.2 6) q (sfS oB n (E p) free))) 4 (nI (q + 1))) oG1 oM4 (free &&& (sfS oB n (E p) free ^^^ (-1))) (by omega) (by omega) (by omega) hm4 h364 hE4 (by
          refine ⟨rfl, z11, by omega, ?_, ?_, ?_⟩
          · intro i hi
            show ∃ k, k < 32768 ∧ upd (oR.2.2 5) q (nI (E p % 32768)) i = nI k ∧ _
            rw [upd_e, zR 12 (by omega), zR 13 (by omega), zR 14 (by omega)]
            by_cases e : i = q
            · subst e
              rw [if_pos rfl]
              refine ⟨E p % 32768, by omega, rfl, ?_⟩
              rw [y2.1, y2.2.1, y2.2.2, show E p % 32768 % 32 = E p % 32 by omega, show E p % 32768 / 32 % 32 = E p / 32 % 32 by omega, show E p % 32768 / 1024 % 32 = E p / 1024 % 32 by omega]
              exact ⟨rfl, rfl, rfl⟩
            · rw [if_neg e]
              obtain ⟨k, k1, k2, k3⟩ := r4 i (by omega)
              obtain ⟨b1, b2, b3⟩ := y1 i (by omega)
              rw [b1, b2, b3]
              exact ⟨k, k1, k2, k3⟩
          · intro i hi
            show upd (oR.2.2 6) q (sfS oB n (E p) free) i = _
            rw [upd_e]
            by_cases e : i = q
            · subst e
              rw [if_pos rfl]
              apply b_ext
              intro j hj
              rw [bt_bs _ n (by omega) j hj]
              by_cases c : j < n
              · rw [decide_eq_true c, Bool.true_and, o15 j c]
                by_cases c2 : bt (sfS oB n (E p) free) j = true
                · rw [if_pos c2, c2, decide_eq_true rfl]
                · rw [if_neg c2]
                  rw [Bool.not_eq_true] at c2
                  rw [c2, eq_comm]
                  apply decide_eq_false
                  rcases r6 j c with h | ⟨i', h1, h2⟩
                  · rw [h]; exact m1_nI (by omega)
                  · rw [h2]; exact fun z => by have := (nI_eq (by omega) (by omega)).mp z; omega
              · rw [decide_eq_false c, Bool.false_and]
                rcases Bool.eq_false_or_eq_true (bt (sfS oB n (E p) free) j) with h | h
                · exact absurd (hset j hj h).1 c
                · exact h
            · rw [if_neg e, r5 i (by omega)]
              apply bs_cong
              intro j hj
              rw [o15 j hj, decide_eq_decide]
              by_cases c2 : bt (sfS oB n (E p) free) j = true
              · rw [if_pos c2, (hset j (by omega) c2).2]
                exact ⟨fun z => absurd z (m1_nI (by omega)), fun z => by have := (nI_eq (by omega) (by omega)).mp z; omega⟩
              · rw [if_neg c2]
          · intro j hj
            rw [o15 j hj]
            by_cases c2 : bt (sfS oB n (E p) free) j = true
            · rw [if_pos c2]; exact Or.inr ⟨q, by omega, rfl⟩
            · rw [if_neg c2]
              rcases r6 j hj with h | ⟨i', h1, h2⟩
              · exact Or.inl h
              · exact Or.inr ⟨i', by omega, h2⟩) (by
          intro j hj
          rw [hf2 j hj, hfr j hj]
          by_cases c : j < n
          · rw [decide_eq_true c, Bool.true_and, Bool.true_and, o15 j c]
            by_cases c2 : bt (sfS oB n (E p) free) j = true
            · rw [if_pos c2, c2, decide_eq_false (show ¬ nI q = -1 from fun z => m1_nI (show q < 1000 by omega) z.symm)]; simp
            · rw [if_neg c2]
              rw [Bool.not_eq_true] at c2
              rw [c2]; simp
          · rw [decide_eq_false c]; rfl) (by omega)
        refine ⟨oR', oG', oM', q', w1, w2, w3, w4, hrm4.tr w5, ?_, ?_, ?_⟩
        · rw [w6, zI 10 (by omega)]
        · rw [w7, zI 16 (by omega)]
        · rw [w8, zI 17 (by omega)]
