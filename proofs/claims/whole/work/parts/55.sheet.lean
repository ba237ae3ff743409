/-! a sheet out of a page -/
theorem wB_part {oB oD : St} {n i : Nat} (hw : wB oD n) (hW : 0 < (oD.1 0).toInt) (hi : i ≤ n) (h0 : oB.1 0 = oD.1 0) (h1 : oB.1 1 = oD.1 1) (h2 : oB.1 2 = nI i) (h3 : oB.1 3 = oD.1 3) (h4 : oB.1 4 = oD.1 4) (h5 : oB.1 5 = oD.1 5) (h6 : oB.1 6 = oD.1 6) (h7 : oB.1 7 = oD.1 7) (ha : ∀ j, j < i → oB.2.2 8 j = oD.2.2 8 j ∧ oB.2.2 9 j = oD.2.2 9 j ∧ oB.2.2 10 j = oD.2.2 10 j) : wB oB i := by
  obtain ⟨w1, w2, w3, w4, w5, w6, w7, w8, w9, w10, w11, w12⟩ := hw
  unfold wB
  rw [h0, h1, h3, h4, h5, h6, h7]
  refine ⟨by omega, h2, w3, w4, w5, w6, w7, w8, w9, fun j hj => ?_, fun z => by omega, w12⟩
  obtain ⟨a1, a2, a3⟩ := ha j hj
  rw [a1, a2, a3]
  exact w10 j (by omega)
def cpB (oB oD : St) (i : Nat) : Prop := oB.1 0 = oD.1 0 ∧ oB.1 1 = oD.1 1 ∧ oB.1 2 = nI i ∧ oB.1 3 = oD.1 3 ∧ oB.1 4 = oD.1 4 ∧ oB.1 5 = oD.1 5 ∧ oB.1 6 = oD.1 6 ∧ oB.1 7 = oD.1 7 ∧ ∀ j, j < i → oB.2.2 8 j = oD.2.2 8 j ∧ oB.2.2 9 j = oD.2.2 9 j ∧ oB.2.2 10 j = oD.2.2 10 j
theorem cpB.w {oB oD : St} {n i : Nat} (h : cpB oB oD i) (hw : wB oD n) (hW : 0 < (oD.1 0).toInt) (hi : i ≤ n) : wB oB i := by
  obtain ⟨h0, h1, h2, h3, h4, h5, h6, h7, ha⟩ := h
  exact wB_part hw hW hi h0 h1 h2 h3 h4 h5 h6 h7 ha
set_option maxHeartbeats 4000000 in
theorem become_c {oB oD : St} {n : Nat} (hw : wB oD n) (hW : 0 < (oD.1 0).toInt) (hcl : clD oD) (hdis : dis oD n) : ∃ oB', f_X0_become oB oD = some oB' ∧ cpB oB' oD n := by
  have hn := hw.1
  obtain ⟨k3, k4, k5, k6, k7⟩ := hcl
  unfold f_X0_become f_X0_clear
  rw [bn1_s]
  obtain ⟨s, h1, h2⟩ := lpn (fun fuel k (s : St) => f_X0_become_L22 oD fuel (nI k) s) (fun s => some s) n (fun k s => cpB s oD k) (by
    intro fuel k s hk hs
    have hws := hs.w hw hW (by omega)
    have hs0 := hs
    obtain ⟨c0, c1, c2, c3, c4, c5, c6, c7, c8⟩ := hs
    have hj := hw.2.2.2.2.2.2.2.2.2.1 k hk
    have ho : onB s (oD.2.2 8 k).toInt (oD.2.2 9 k).toInt = true := by
      unfold onB
      rw [c0, c1, decide_eq_true hj.1, decide_eq_true hj.2.1, decide_eq_true hj.2.2.1, decide_eq_true hj.2.2.2.1]; rfl
    have ht : tkS s k (oD.2.2 8 k) (oD.2.2 9 k) = false := by
      rcases Bool.eq_false_or_eq_true (tkS s k (oD.2.2 8 k) (oD.2.2 9 k)) with z | z
      · obtain ⟨i, hi, h9⟩ := exJ_t.mp z
        unfold atP at h9
        simp only [Bool.and_eq_true, decide_eq_true_eq] at h9
        rw [(c8 i hi).1, (c8 i hi).2.1] at h9
        exact absurd h9 (hdis i k hi hk)
      · exact z
    refine ⟨addB s k (oD.2.2 8 k) (oD.2.2 9 k) (oD.2.2 10 k), ?_, c0, c1, rfl, c3, c4, c5, c6, c7, fun j hj2 => ?_⟩
    · show f_X0_become_L22 oD (fuel + 1) (nI k) s = f_X0_become_L22 oD fuel (nI (k + 1)) (addB s k (oD.2.2 8 k) (oD.2.2 9 k) (oD.2.2 10 k))
      rw [f_X0_become_L22_s, hw.2.1, if_neg (nI_ge hk (by omega)), ag_n (show k < 14 by omega) (by decide), ag_n (show k < 14 by omega) (by decide), ag_n (show k < 14 by omega) (by decide), bn1_s, bn1_s, bn1_s, add_c hws, if_pos ⟨ho, ht, by omega⟩, bn2_s, nI_1]
    · show upd (s.2.2 8) k (oD.2.2 8 k) j = _ ∧ upd (s.2.2 9) k (oD.2.2 9 k) j = _ ∧ upd (s.2.2 10) k (oD.2.2 10 k) j = _
      rw [upd_e, upd_e, upd_e]
      by_cases e : j = k
      · rw [if_pos e, if_pos e, if_pos e, e]; exact ⟨rfl, rfl, rfl⟩
      · rw [if_neg e, if_neg e, if_neg e]; exact c8 j (by omega)) (by
    intro fuel s hs
    show f_X0_become_L22 oD (fuel + 1) (nI n) s = _
    rw [f_X0_become_L22_s, hw.2.1, if_pos (nI_le (Nat.le_refl _) (by omega))]) fu 0 (sI (sI (sI (sI (sI (sI (sI (sI (sI (sI oB 0 0) 1 0) 2 0) 3 2) 4 12) 5 1) 6 4) 7 3) 0 (oD.1 0)) 1 (oD.1 1)) (by omega) (by unfold fu; omega) ⟨rfl, rfl, rfl, k3.symm, k4.symm, k5.symm, k6.symm, k7.symm, fun j hj => by omega⟩
  exact ⟨s, h1, h2⟩
theorem copy_m {oM : St} {n : Nat} (hn : n ≤ 14) (h5 : oM.1 5 = nI n) (K : St → Option (Int32 × St)) : ∃ oM', f_X7_sheet_L62 K fu 0 oM = K oM' ∧ oM'.1 = oM.1 ∧ (∀ k, k < 6 ∨ 8 < k → oM'.2.2 k = oM.2.2 k) ∧ ∀ j, j < n → oM'.2.2 6 j = oM.2.2 23 j ∧ oM'.2.2 7 j = oM.2.2 24 j ∧ oM'.2.2 8 j = oM.2.2 25 j := by
  obtain ⟨s, h1, h2⟩ := lpn (fun fuel k (s : St) => f_X7_sheet_L62 K fuel (nI k) s) (fun s => K s) n (fun k s => s.1 = oM.1 ∧ (∀ k, k < 6 ∨ 8 < k → s.2.2 k = oM.2.2 k) ∧ ∀ j, j < k → s.2.2 6 j = oM.2.2 23 j ∧ s.2.2 7 j = oM.2.2 24 j ∧ s.2.2 8 j = oM.2.2 25 j) (by
    intro fuel k s hk hs
    obtain ⟨a1, a9, a2⟩ := hs
    refine ⟨sR (sR (sR s 6 (upd (s.2.2 6) k (oM.2.2 23 k))) 7 (upd (s.2.2 7) k (oM.2.2 24 k))) 8 (upd (s.2.2 8) k (oM.2.2 25 k)), ?_, a1, fun j hj => by rw [sR_3, sR_3, sR_3, if_neg (by omega), if_neg (by omega), if_neg (by omega)]; exact a9 j hj, fun i hi => ?_⟩
    · show f_X7_sheet_L62 K (fuel + 1) (nI k) s = f_X7_sheet_L62 K fuel (nI (k + 1)) (sR (sR (sR s 6 (upd (s.2.2 6) k (oM.2.2 23 k))) 7 (upd (s.2.2 7) k (oM.2.2 24 k))) 8 (upd (s.2.2 8) k (oM.2.2 25 k)))
      have z24 : ∀ f, (sR s 6 f).2.2 24 k = oM.2.2 24 k := fun f => by rw [sR_3, if_neg (by omega), a9 24 (by omega)]
      have z25 : ∀ f g, (sR (sR s 6 f) 7 g).2.2 25 k = oM.2.2 25 k := fun f g => by rw [sR_3, if_neg (by omega), sR_3, if_neg (by omega), a9 25 (by omega)]
      rw [f_X7_sheet_L62_s, a1, h5, if_neg (nI_ge hk (by omega)), nI_1, ag_n (show k < 14 by omega) (by decide), bn1_s, aw_n (show k < 14 by omega) (by decide), bn1_s, ag_n (show k < 14 by omega) (by decide), bn1_s, aw_n (show k < 14 by omega) (by decide), bn1_s, ag_n (show k < 14 by omega) (by decide), bn1_s, aw_n (show k < 14 by omega) (by decide), bn1_s, z24, z25, a9 23 (by omega)]
      rfl
    · show upd (s.2.2 6) k (oM.2.2 23 k) i = _ ∧ upd (s.2.2 7) k (oM.2.2 24 k) i = _ ∧ upd (s.2.2 8) k (oM.2.2 25 k) i = _
      rw [upd_e, upd_e, upd_e]
      by_cases e : i = k
      · rw [if_pos e, if_pos e, if_pos e, e]; exact ⟨rfl, rfl, rfl⟩
      · rw [if_neg e, if_neg e, if_neg e]; exact a2 i (by omega)) (by
    intro fuel s hs
    show f_X7_sheet_L62 K (fuel + 1) (nI n) s = _
    rw [f_X7_sheet_L62_s, hs.1, h5, if_pos (nI_le (Nat.le_refl _) (by omega))]) fu 0 oM (by omega) (by unfold fu; omega) ⟨rfl, fun _ _ => rfl, fun j hj => by omega⟩
  exact ⟨s, h1, h2⟩
def bsK (S : St) : Option (Int32 × St) :=
  bn1 (aw 5 S 9 0 2) fun oM33 =>
  bn1 (aw 5 oM33 9 1 12) fun oM35 =>
  bn1 (aw 5 oM35 9 2 1) fun oM37 =>
  bn1 (aw 5 oM37 9 3 4) fun oM39 =>
  bn1 (aw 5 oM39 9 4 3) fun oM41 =>
  some (oM41.1 5, (sI (sI (sI oM41 10 0) 4 ((oM41.1 4) + 1)) 0 0))
theorem bsK_e (S : St) : ∃ e, bsK S = some (S.1 5, (sI (sI (sI e 10 0) 4 ((S.1 4) + 1)) 0 0)) ∧ e.1 = S.1 ∧ (∀ k, k ≠ 9 → e.2.2 k = S.2.2 k) ∧ e.2.2 9 0 = 2 ∧ e.2.2 9 1 = 12 ∧ e.2.2 9 2 = 1 ∧ e.2.2 9 3 = 4 ∧ e.2.2 9 4 = 3 := by
  have a : ∀ (S : St) (k : Nat) (v : Int32), k < 5 → aw 5 S 9 (nI k) v = some (sR S 9 (upd (S.2.2 9) k v)) := fun S k v h => aw_n h (by decide)
  unfold bsK
  rw [show (0 : Int32) = nI 0 from rfl, a S 0 2 (by omega), bn1_s, show (1 : Int32) = nI 1 from rfl, a _ 1 12 (by omega), bn1_s]
  rw [show (2 : Int32) = nI 2 from rfl, a _ 2 (nI 1) (by omega), bn1_s, show (3 : Int32) = nI 3 from rfl, a _ 3 4 (by omega), bn1_s, show (4 : Int32) = nI 4 from rfl, a _ 4 (nI 3) (by omega), bn1_s]
  refine ⟨_, rfl, rfl, fun k hk => ?_, rfl, rfl, rfl, rfl, rfl⟩
  rw [sR_3, if_neg hk, sR_3, if_neg hk, sR_3, if_neg hk, sR_3, if_neg hk, sR_3, if_neg hk]
theorem sheet_K (oM2 : St) (H : Int32) {n : Nat} (hn : n ≤ 14) (h22 : oM2.1 22 = nI n) : ∃ oM', f_X7_sheet_L62 bsK fu 0 (sI (sI (sI oM2 2 (oM2.1 20)) 3 H) 5 (oM2.1 22)) = some (nI n, oM') ∧ oM'.1 0 = nI 0 ∧ oM'.1 2 = oM2.1 20 ∧ oM'.1 3 = H ∧ oM'.1 4 = oM2.1 4 + 1 ∧ oM'.1 5 = nI n ∧ oM'.1 10 = 0 ∧ oM'.1 16 = oM2.1 16 ∧ oM'.1 17 = oM2.1 17 ∧ (∀ j, j < n → oM'.2.2 6 j = oM2.2.2 23 j ∧ oM'.2.2 7 j = oM2.2.2 24 j ∧ oM'.2.2 8 j = oM2.2.2 25 j) ∧ oM'.2.2 9 0 = 2 ∧ oM'.2.2 9 1 = 12 ∧ oM'.2.2 9 2 = 1 ∧ oM'.2.2 9 3 = 4 ∧ oM'.2.2 9 4 = 3 := by
  obtain ⟨oM3, g1, g2, g3, g4⟩ := copy_m (oM := sI (sI (sI oM2 2 (oM2.1 20)) 3 H) 5 (oM2.1 22)) hn h22 bsK
  obtain ⟨e, k1, k2, k3, k4⟩ := bsK_e oM3
  rw [g1, k1]
  have z : ∀ q, (sI (sI (sI e 10 0) 4 (oM3.1 4 + 1)) 0 0).1 q = if q = 0 then 0 else if q = 4 then oM3.1 4 + 1 else if q = 10 then 0 else (sI (sI (sI oM2 2 (oM2.1 20)) 3 H) 5 (oM2.1 22)).1 q := fun q => by
    rw [sI_1, sI_1, sI_1, k2, g2]
  have z2 : (sI (sI (sI oM2 2 (oM2.1 20)) 3 H) 5 (oM2.1 22)).1 5 = nI n := h22
  refine ⟨sI (sI (sI e 10 0) 4 (oM3.1 4 + 1)) 0 0, by rw [show oM3.1 5 = nI n by rw [g2, z2]], rfl, ?_, ?_, ?_, ?_, ?_, ?_, ?_, fun j hj => ?_, k4⟩
  · rw [z 2]; rfl
  · rw [z 3]; rfl
  · rw [z 4, if_neg (by omega), if_pos rfl, g2]; rfl
  · rw [z 5]; exact h22
  · rw [z 10]; rfl
  · rw [z 16]; rfl
  · rw [z 17]; rfl
  · show e.2.2 6 j = _ ∧ e.2.2 7 j = _ ∧ e.2.2 8 j = _
    rw [k3 6 (by omega), k3 7 (by omega), k3 8 (by omega)]
    exact g4 j hj
set_option maxHeartbeats 4000000 in
theorem op_sheet {oX oP oR oT oB oM : St} (h : REL oX oP oR oT oB oM) (oD : St) : ∃ r oX' oP' oD' oR' oT' oB' oM', f_X6_sheet oX oP oD oR oT oB = some (r, oX', oP', oD', oR', oT', oB') ∧ f_X7_sheet oM = some (r, oM') ∧ REL oX' oP' oR' oT' oB' oM' := by
  have h0 := h
  obtain ⟨n0, hw0, hm0, hT, hp, hR, c6, c7, c8⟩ := h
  obtain ⟨p, a, oP2, oD2, oM2, hp50, hap, p1, p2, k1, k2, k3, k4, k5⟩ := read_both hp oD
  have hno := h0.p k3 k4
  unfold f_X6_sheet f_X2_isSheet f_X7_sheet
  rw [k1, bn3_s, k2, bn2_s, k3.1, p1, (k4 0 (by omega)).1, p2]
  by_cases e : a = p
  · subst e
    rw [if_pos rfl, if_neg (nI_nlt (Nat.le_refl _) (by omega))]
    rcases k5 rfl with ⟨W, h⟩ | ⟨W, s, h⟩ | ⟨n, h⟩ | ⟨n, h⟩ | ⟨n, h⟩
    · obtain ⟨h1, h2, h3, h4⟩ := h
      have hs : ¬ oM2.1 18 = 4 := by
        rcases h4 with ⟨-, s0⟩ | ⟨-, -, s0, -⟩
        · rw [s0]; decide
        · rw [s0]; decide
      rw [if_neg (by rw [h1]; decide), if_neg hs, bn3_s, if_pos rfl]
      exact ⟨_, _, _, _, _, _, _, _, rfl, rfl, hno⟩
    · obtain ⟨h1, h2, h3, h4, h5, h6⟩ := h
      have hs : ¬ oM2.1 18 = 4 := by
        rcases h5 with ⟨-, s0⟩ | ⟨-, -, s0, -⟩
        · rw [s0]; decide
        · rw [s0]; decide
      have hd : ¬ oP2.1 3 = 3 := by
        rcases h6 with ⟨s0, -⟩ | ⟨s0, -⟩
        · rw [s0]; decide
        · rw [s0]; decide
      rw [if_neg hd, if_neg hs, bn3_s, if_pos rfl]
      exact ⟨_, _, _, _, _, _, _, _, rfl, rfl, hno⟩
    · obtain ⟨d3, s4, hDD, q0, q1⟩ := h
      obtain ⟨hw, hW, hcl, hdis, h20, h22, hnw⟩ := hDD
      have hn := hw.1
      obtain ⟨oB', b1', b2'⟩ := become_c (oB := oB) hw hW hcl hdis
      obtain ⟨oM', y1, y0, y2, y3, y4, y5, y10, y16, y17, yxy, y9⟩ := sheet_K oM2 (oD2.1 1) hn h22
      have ym : (if oM2.1 22 = 0 then f_X7_sheet_L62 bsK fu 0 (sI (sI (sI oM2 2 (oM2.1 20)) 3 (oM2.1 19)) 5 (oM2.1 22)) else f_X7_sheet_L62 bsK fu 0 (sI (sI (sI oM2 2 (oM2.1 20)) 3 (oM2.1 21)) 5 (oM2.1 22))) = some (nI n, oM') := by
        by_cases z : n = 0
        · rw [if_pos (by rw [h22, z]; rfl), q0 z]; exact y1
        · rw [if_neg (by rw [h22]; exact nI_ne0 (by omega) (by omega)), q1 (by omega)]; exact y1
      rw [if_pos d3, if_pos s4, bn3_s, if_neg (by decide), b1', bn1_s, forget_c, bn2_s]
      have hwB := b2'.w hw hW (Nat.le_refl _)
      obtain ⟨f0, f1, f2, f3, f4, f5, f6, f7, f8⟩ := b2'
      obtain ⟨l3, l4, l5, l6, l7⟩ := hcl
      rw [f2]
      refine ⟨_, _, _, _, _, _, _, _, rfl, ym, n, hwB, ⟨?_, ?_, y5, fun j hj => ?_, ?_⟩, Or.inl rfl, ⟨0, by omega, rfl, y0, fun j hj => by omega⟩, Or.inl ⟨rfl, y10, rfl⟩, ?_, ?_, ?_⟩
      · rw [y2, h20, f0]
      · rw [y3, f1]
      · obtain ⟨a1, a2, a3⟩ := yxy j hj
        obtain ⟨b1, b2, b3⟩ := hnw j hj
        obtain ⟨e1, e2, e3⟩ := f8 j hj
        rw [a1, a2, a3, b1, b2, b3, e1, e2, e3]; exact ⟨rfl, rfl, rfl⟩
      · obtain ⟨z0, z1, z2, z3, z4⟩ := y9
        rw [z0, z1, z2, z3, z4, f3, f4, f5, f6, f7, l3, l4, l5, l6, l7]
        exact ⟨rfl, rfl, rfl, rfl, rfl⟩
      · show oX.1 6 + 1 = _
        rw [y4, (k4 4 (by omega)).1, c6]
      · show oX.1 7 = _
        rw [y16, (k4 16 (by omega)).1, c7]
      · show oX.1 8 = _
        rw [y17, (k4 17 (by omega)).1, c8]
    · obtain ⟨d3, s4, -⟩ := h
      rw [if_neg (by rw [d3]; decide), if_neg (by rw [s4]; decide), bn3_s, if_pos rfl]
      exact ⟨_, _, _, _, _, _, _, _, rfl, rfl, hno⟩
    · obtain ⟨d3, s4, -⟩ := h
      rw [if_neg (by rw [d3]; decide), if_neg (by rw [s4]; decide), bn3_s, if_pos rfl]
      exact ⟨_, _, _, _, _, _, _, _, rfl, rfl, hno⟩
  · rw [if_neg (fun z => e ((nI_eq (by omega) (by omega)).mp z)), if_pos (nI_lt (by omega) (by omega)), bn3_s, if_pos rfl]
    exact ⟨_, _, _, _, _, _, _, _, rfl, rfl, hno⟩
