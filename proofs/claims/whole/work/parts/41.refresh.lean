theorem ct_two {f : Nat → Int32} {n a b : Nat} (hab : a < b) (hb : b < n) (h : f a = f b) : 2 ≤ ctI f n (f b) := by
  have h1 : 0 < ctI f b (f b) := ctI_pos.mpr ⟨a, hab, h⟩
  have h2 : ctI f (b + 1) (f b) = ctI f b (f b) + 1 := by rw [ctI_succ, if_pos rfl]
  have h3 : ctI f (b + 1) (f b) ≤ ctI f n (f b) := fb_ct_mono _ hb
  omega
theorem ct_le1 {f : Nat → Int32} {v : Int32} : ∀ {n : Nat}, (∀ a b, a < b → b < n → f a ≠ f b) → ctI f n v ≤ 1
  | 0, _ => Nat.zero_le _
  | n + 1, h => by
    rw [ctI_succ]
    by_cases e : f n = v
    · have : ctI f n v = 0 := by
        rcases Nat.eq_zero_or_pos (ctI f n v) with q | q
        · exact q
        · obtain ⟨j, hj, h2⟩ := ctI_pos.mp q
          exact absurd (h2.trans e.symm) (h j n hj (by omega))
      rw [if_pos e]; omega
    · rw [if_neg e]
      exact ct_le1 (fun a b h1 h2 => h a b h1 (by omega))
theorem bal_lt {oB : St} {n : Nat} (hw : wB oB n) {l : List (Nat × Nat × Nat)} {k : Nat} (h : k ∈ bal oB l) : k < 32768 := by
  unfold bal at h
  obtain ⟨t, -, ht⟩ := List.mem_filterMap.mp h
  unfold kv at ht
  by_cases hv : vS oB t.1 t.2.1 t.2.2 = true
  · rw [if_pos hv] at ht
    injection ht with ht
    rw [← ht]
    exact kS_lt hw hv
  · rw [if_neg hv] at ht
    cases ht
def TB (oT oB : St) (n : Nat) : Prop := ∃ (Z : Nat) (E : Nat → Nat), tabOK (bal oB (tri n)) Z E ∧ Z ≤ 364 ∧ oT.1 4 = nI Z ∧ oT.1 5 = nI (bal oB (tri n)).length ∧ oT.1 6 = nI (olc oB (tri n)) ∧ ∀ i, i < Z → oT.2.2 8 i = nI (E i) ∧ oT.2.2 9 i = suS oB (E i % 32) (E i / 32 % 32) (E i / 1024 % 32) n
theorem tab_b {oB : St} {n Z : Nat} {E : Nat → Nat} {l : List (Nat × Nat × Nat)} (hw : wB oB n) (h : tabOK (bal oB l) Z E) {i : Nat} (hi : i < Z) : E i < 11960320 ∧ E i / 32768 ≤ 364 := by
  obtain ⟨k, hk, e⟩ := h.1 i hi
  rw [e]
  have := bal_lt hw hk
  refine ⟨enc_lt this, ?_⟩
  rw [enc_div this]
  omega
theorem keyAt_n {oT : St} {i e : Nat} (hi : i < 364) (h : oT.2.2 8 i = nI e) : f_X5_keyAt oT (nI i) = some (nI (e % 32768)) := by
  unfold f_X5_keyAt
  rw [ag_n hi (by decide), bn1_s, h]
  congr 1
  exact fa_mask e 15
theorem clamp_nI {x : Int32} {k : Nat} (h : x = nI k) (hk : k < 2 ^ 31) : x = nI x.toNatClampNeg ∧ x.toNatClampNeg = k := by
  rw [h, nI_clamp hk]
  exact ⟨rfl, rfl⟩
set_option maxHeartbeats 4000000 in
theorem fill_L {oB : St} {n Z : Nat} {E : Nat → Nat} (hw : wB oB n) (hZ : Z ≤ 364) (hE : ∀ i, i < Z → E i < 11960320) (oC oT oG : St) (h4 : oT.1 4 = nI Z) (h8 : ∀ i, i < Z → oT.2.2 8 i = nI (E i)) :
    ∃ oT' oG', f_X5_refresh_L40 oB oC fu 0 oT oG = some (oT', oC, oG') ∧ oT'.1 4 = nI Z ∧ oT'.1 5 = oT.1 5 ∧ oT'.1 6 = oT.1 6 ∧ oT'.1 3 = 1 ∧ ∀ i, i < Z → oT'.2.2 8 i = nI (E i) ∧ oT'.2.2 9 i = suS oB (E i % 32) (E i / 32 % 32) (E i / 1024 % 32) n := by
  obtain ⟨s, h1, h2⟩ := lpn (fun fuel k (s : St × St) => f_X5_refresh_L40 oB oC fuel (nI k) s.1 s.2) (fun s => some (sI s.1 3 1, oC, s.2)) Z (fun k s => s.1.1 4 = nI Z ∧ s.1.1 5 = oT.1 5 ∧ s.1.1 6 = oT.1 6 ∧ (∀ i, i < Z → s.1.2.2 8 i = nI (E i)) ∧ ∀ i, i < k → s.1.2.2 9 i = suS oB (E i % 32) (E i / 32 % 32) (E i / 1024 % 32) n) (by
    intro fuel k s hk hs
    obtain ⟨a1, a2, a3, a4, a5⟩ := hs
    obtain ⟨oG', g1, g2⟩ := from_c s.2 (k := E k % 32768) (by omega)
    rw [show E k % 32768 % 32 = E k % 32 by omega, show E k % 32768 / 32 % 32 = E k / 32 % 32 by omega, show E k % 32768 / 1024 % 32 = E k / 1024 % 32 by omega] at g2
    refine ⟨(sR s.1 9 (upd (s.1.2.2 9) k (suS oB (E k % 32) (E k / 32 % 32) (E k / 1024 % 32) n)), oG'), ?_, a1, a2, a3, a4, ?_⟩
    · show f_X5_refresh_L40 oB oC (fuel + 1) (nI k) s.1 s.2 = f_X5_refresh_L40 oB oC fuel (nI (k + 1)) (sR s.1 9 (upd (s.1.2.2 9) k (suS oB (E k % 32) (E k / 32 % 32) (E k / 1024 % 32) n))) oG'
      rw [f_X5_refresh_L40_s, a1, if_neg (nI_ge hk (by omega)), keyAt_n (by omega) (a4 k hk), bn1_s, g1, bn1_s, sups_c hw g2 (by omega) (by omega) (by omega), bn1_s, aw_n (show k < 364 by omega) (by decide), bn1_s, nI_1]
    · intro i hi
      show upd (s.1.2.2 9) k _ i = _
      rw [upd_e]
      by_cases e : i = k
      · rw [if_pos e, e]
      · rw [if_neg e]; exact a5 i (by omega)) (by
    intro fuel s hs
    show f_X5_refresh_L40 oB oC (fuel + 1) (nI Z) s.1 s.2 = _
    rw [f_X5_refresh_L40_s, hs.1, if_pos (nI_le (Nat.le_refl _) (by omega))]) fu 0 (oT, oG) (by omega) (by unfold fu; omega) ⟨h4, rfl, rfl, h8, fun i hi => by omega⟩
  obtain ⟨a1, a2, a3, a4, a5⟩ := h2
  exact ⟨_, _, h1, a1, a2, a3, rfl, fun i hi => ⟨a4 i hi, a5 i hi⟩⟩
set_option maxHeartbeats 4000000 in
theorem refresh_c {oB oT : St} {n : Nat} (hw : wB oB n) (h : oT.1 3 = 0 ∨ TB oT oB n) (oC oG : St) : ∃ oT' oC' oG', f_X5_refresh oT oB oC oG = some (oT', oC', oG') ∧ TB oT' oB n := by
  unfold f_X5_refresh
  by_cases h0 : oT.1 3 = 0
  · rw [if_pos h0]
    obtain ⟨oT2, oC3, g1, q1, q2, q3, q4⟩ := gath_A hw oT oC
    have hn := hw.1
    have hV : (bal oB (tri n)).length ≤ 364 := Nat.le_trans (bal_len _ _) (tri_len n (by omega))
    rw [g1, bn2_s, q1]
    generalize hVe : (bal oB (tri n)).length = V at hV q1 q3 q4
    obtain ⟨f5, s1, s2, s3⟩ := sort_c hV (oT2.2.2 7)
    rw [s1, bn1_s]
    have hG : ∀ j, j < V → f5 j = nI (f5 j).toNatClampNeg ∧ (f5 j).toNatClampNeg < 32768 := by
      intro j hj
      have h1 : 0 < ctI f5 V (f5 j) := ctI_pos.mpr ⟨j, hj, rfl⟩
      rw [s2] at h1
      obtain ⟨j', hj', e⟩ := ctI_pos.mp h1
      obtain ⟨k, hk, e2⟩ := q4 j' hj'
      obtain ⟨c1, c2⟩ := clamp_nI (e.symm.trans e2) (by omega)
      exact ⟨c1, by omega⟩
    have hs : ∀ i j, i < j → j < V → (f5 i).toNatClampNeg ≤ (f5 j).toNatClampNeg := by
      intro i j hij hj
      have h1 := s3 i j hij hj
      obtain ⟨c1, c2⟩ := hG i (by omega)
      obtain ⟨d1, d2⟩ := hG j hj
      rw [c1, d1] at h1
      exact (nI_leI (by omega) (by omega)).mp h1
    obtain ⟨oT7, k1, k2, k3⟩ := cnt_L hV hG hs fu 0 0 (sI (sR oT2 7 f5) 4 0) (by unfold fu; omega) ⟨q1, rfl, Nat.le_refl _, Nat.zero_le _, fun z => z, fun j _ b2 _ => by rw [show j = 0 by omega], fun j hj => by omega, 0, fun _ => 0, rfl, Nat.le_refl _, fun i hi => by omega, fun i hi => by omega, fun j hj => by omega, fun i i' _ hi => by omega⟩
    have k1 : f_X5_countBallots (sR oT2 7 f5) = some oT7 := k1
    have k3 : oT7.1 6 = oT2.1 6 := k3
    rw [k1, bn1_s]
    obtain ⟨m1, m2, -, -, -, -, -, z, O, o1, o2, o3, o4, o5, o6⟩ := k2
    have hz : z ≤ 364 := by omega
    rw [o1]
    obtain ⟨f9, t1, t2, t3⟩ := sort_c hz (oT7.2.2 8)
    rw [t1, bn1_s]
    have hcnt : ∀ k, k < 32768 → fb_ct (fun q => decide ((f5 q).toNatClampNeg = k)) V = (bal oB (tri n)).count k := by
      intro k hk
      rw [← q3 k hk, ← s2]
      apply fb_ct_cong
      intro q hq
      rw [decide_eq_decide]
      obtain ⟨c1, c2⟩ := hG q hq
      constructor
      · intro e; rw [c1, e]
      · intro e
        rw [c1] at e
        exact (nI_eq (by omega) (by omega)).mp e
    have hO : ∀ i, i < z → O i < 11960320 := by
      intro i hi
      obtain ⟨j, h1, h2⟩ := o4 i hi
      rw [h2]
      exact enc_lt (hG j h1).2
    have h9 : ∀ i, i < z → ∃ i', i' < z ∧ f9 i = nI (O i') := by
      intro i hi
      have h1 : 0 < ctI f9 z (f9 i) := ctI_pos.mpr ⟨i, hi, rfl⟩
      rw [t2] at h1
      obtain ⟨i', hi', e⟩ := ctI_pos.mp h1
      exact ⟨i', hi', by rw [← e]; exact o3 i' hi'⟩
    have hE : ∀ i, i < z → f9 i = nI (f9 i).toNatClampNeg ∧ (f9 i).toNatClampNeg < 11960320 := by
      intro i hi
      obtain ⟨i', hi', e⟩ := h9 i hi
      obtain ⟨c1, c2⟩ := clamp_nI e (by have := hO i' hi'; omega)
      exact ⟨c1, by rw [c2]; exact hO i' hi'⟩
    have hd : ∀ a b, a < b → b < z → oT7.2.2 8 a ≠ oT7.2.2 8 b := by
      intro a b hab hb e
      rw [o3 a (by omega), o3 b hb] at e
      have e := (nI_eq (by have := hO a (by omega); omega) (by have := hO b hb; omega)).mp e
      have := o6 a b hab hb
      omega
    have tab : tabOK (bal oB (tri n)) z (fun i => (f9 i).toNatClampNeg) := by
      refine ⟨?_, ?_, ?_⟩
      · intro i hi
        dsimp only
        obtain ⟨i', hi', e⟩ := h9 i hi
        obtain ⟨c1, c2⟩ := clamp_nI e (by have := hO i' hi'; omega)
        obtain ⟨j, h1, h2⟩ := o4 i' hi'
        rw [hcnt _ (hG j h1).2] at h2
        refine ⟨(f5 j).toNatClampNeg, ?_, by rw [c2]; exact h2⟩
        apply List.count_pos_iff.mp
        rw [← hcnt _ (hG j h1).2]
        exact fb_ct_pos.mpr ⟨j, h1, by simp⟩
      · intro k hk
        have hk2 := bal_lt hw hk
        have h1 : 0 < (bal oB (tri n)).count k := List.count_pos_iff.mpr hk
        rw [← hcnt k hk2] at h1
        obtain ⟨j, hj, e⟩ := fb_ct_pos.mp h1
        have e : (f5 j).toNatClampNeg = k := by simpa using e
        obtain ⟨i, hi, e2⟩ := o5 j hj
        rw [hcnt _ (hG j hj).2, e] at e2
        have h2 : 0 < ctI (oT7.2.2 8) z (nI (O i)) := ctI_pos.mpr ⟨i, hi, o3 i hi⟩
        rw [← t2] at h2
        obtain ⟨i', hi', e3⟩ := ctI_pos.mp h2
        obtain ⟨c1, c2⟩ := clamp_nI e3 (by have := hO i hi; omega)
        refine ⟨i', hi', ?_⟩
        show (f9 i').toNatClampNeg = _
        rw [c2, e2]
        show enc _ (f5 j).toNatClampNeg = _
        rw [e]
      · intro i j hij hj
        dsimp only
        have h1 := t3 i j hij hj
        obtain ⟨c1, c2⟩ := hE i (by omega)
        obtain ⟨d1, d2⟩ := hE j hj
        have h2 : f9 i ≠ f9 j := by
          intro e
          have h3 := ct_two hij hj e
          rw [t2] at h3
          have h4 := ct_le1 (v := f9 j) hd
          omega
        rw [c1, d1] at h1 h2
        have h1 := (nI_leI (by omega) (by omega)).mp h1
        rcases Nat.lt_or_ge (f9 i).toNatClampNeg (f9 j).toNatClampNeg with q | q
        · exact q
        · exact absurd (by congr 1; omega) h2
    obtain ⟨oT', oG', w1, w2, w3, w4, w5, w6⟩ := fill_L hw hz (fun i hi => (hE i hi).2) oC3 (sR oT7 8 f9) oG o1 (fun i hi => (hE i hi).1)
    refine ⟨oT', oC3, oG', w1, z, _, tab, hz, w2, ?_, ?_, w6⟩
    · rw [w3, hVe]; exact m1
    · rw [w4]
      show oT7.1 6 = _
      rw [k3]; exact q2
  · rw [if_neg h0]
    exact ⟨_, _, _, rfl, h.resolve_left h0⟩
