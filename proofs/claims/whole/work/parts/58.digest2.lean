/-! the reference's sum -/
def mxI (oM0 s : St) (v : Int64) : Prop := kM oM0 s ∧ s.2.1 43 = v
theorem mix_m {oM0 s : St} {v : Int64} (h : mxI oM0 s v) (x : Int32) : ∃ s', f_X7_mix s x.toInt64 = some s' ∧ mxI oM0 s' (31 * v + x.toInt64) ∧ s'.1 = s.1 ∧ s'.2.2 = s.2.2 := by
  unfold f_X7_mix
  refine ⟨_, rfl, ⟨h.1.l _, ?_⟩, rfl, rfl⟩
  rw [sL_same, h.2]
theorem TM.same {s s' oB : St} {n : Nat} (h : TM s oB n) (h1 : s'.1 = s.1) (h2 : s'.2.2 = s.2.2) : TM s' oB n := by
  unfold TM eT at h ⊢
  rw [h1, h2]
  exact h
theorem m2 {oM0 oM oB : St} {n : Nat} (hw : wB oB n) (hm : mB oM0 oB n) (K : St → Option St) {h : Int64} (hI : mxI oM0 oM h) : ∃ s, f_X7_mixSheet_L2 K fu 0 oM = K s ∧ mxI oM0 s (fm (fun w => abS oB (nI w)) 8 h) := by
  obtain ⟨s, h1, h2⟩ := lpn (fun fuel k (s : St) => f_X7_mixSheet_L2 K fuel (nI k) s) (fun s => K s) 8 (fun k s => mxI oM0 s (fm (fun w => abS oB (nI w)) k h)) (by
    intro fuel k s hk hs
    obtain ⟨s', g1, g2, -⟩ := mix_m hs (abS oB (nI k))
    refine ⟨s', ?_, g2⟩
    show f_X7_mixSheet_L2 K (fuel + 1) (nI k) s = f_X7_mixSheet_L2 K fuel (nI (k + 1)) s'
    rw [f_X7_mixSheet_L2_s, if_neg (show ¬ (8 : Int32) ≤ nI k from nI_ge (b := 8) hk (by decide)), abN_m hw (hm.k hs.1) _ (w_in (m := 7) (by omega) (by omega)), bn1_s, g1, bn1_s, nI_1]) (by
    intro fuel s hs
    show f_X7_mixSheet_L2 K (fuel + 1) (nI 8) s = _
    rw [f_X7_mixSheet_L2_s, if_pos (by decide)]) fu 0 oM (by omega) (by unfold fu; omega) hI
  exact ⟨s, h1, h2⟩
theorem owS_k {a b : St} (h : kM a b) (j : Nat) : owS b j = owS a j := by
  unfold owS
  rw [(h 10 (by omega)).1, (h 15 (by omega)).2]
theorem tdS_k {oB a b : St} (h : kM a b) (j : Nat) (w : Int32) : tdS oB b j w = tdS oB a j w := by
  unfold tdS
  rw [owS_k h]
theorem dv {k m : Nat} (hk : k < 2 ^ 31) (hm : 0 < m) (hm2 : m < 1000) : nI k / nI m = nI (k / m) ∧ nI k - nI (k / m) * nI m = nI (k % m) := by
  refine ⟨nI_div hk (by omega), ?_⟩
  have := Nat.div_mul_le_self k m
  rw [nI_mul, nI_sub this]
  congr 1
  have h2 := Nat.div_add_mod k m
  rw [Nat.mul_comm] at h2
  omega
theorem m26 {oM0 oM oB : St} {n : Nat} (hw : wB oB n) (hm : mB oM0 oB n) (K : St → Option St) {h : Int64} (hI : mxI oM0 oM h) : ∃ s, f_X7_mixSheet_L26 K fu 0 oM = K s ∧ mxI oM0 s (fm (tdF oB oM0) (4 * n) h) := by
  have hn := hw.1
  obtain ⟨s, h1, h2⟩ := lpn (fun fuel k (s : St) => f_X7_mixSheet_L26 K fuel (nI k) s) (fun s => K s) (4 * n) (fun k s => mxI oM0 s (fm (tdF oB oM0) k h)) (by
    intro fuel k s hk hs
    obtain ⟨s', g1, g2, -⟩ := mix_m hs (tdF oB oM0 k)
    have hms := hm.k hs.1
    refine ⟨s', ?_, g2⟩
    obtain ⟨d1, d2⟩ := dv (k := k) (m := 4) (by omega) (by omega) (by omega)
    have e4 : (4 : Int32) * nI n = nI (4 * n) := nI_mul 4 n
    show f_X7_mixSheet_L26 K (fuel + 1) (nI k) s = f_X7_mixSheet_L26 K fuel (nI (k + 1)) s'
    rw [f_X7_mixSheet_L26_s, hms.2.2.1, e4, if_neg (nI_ge hk (by omega)), show nI k / 4 = nI (k / 4) from d1, show nI k - nI (k / 4) * 4 = nI (k % 4) from d2, toldNow_m hw hms (show k / 4 < n by omega) _ (w_in (m := 3) (by omega) (by omega)), bn1_s, tdS_k hs.1]
    rw [show tdS oB oM0 (k / 4) (nI (k % 4)) = tdF oB oM0 k from rfl, g1, bn1_s, nI_1]) (by
    intro fuel s hs
    have e4 : (4 : Int32) * nI n = nI (4 * n) := nI_mul 4 n
    show f_X7_mixSheet_L26 K (fuel + 1) (nI (4 * n)) s = _
    rw [f_X7_mixSheet_L26_s, (hm.k hs.1).2.2.1, e4, if_pos (nI_le (Nat.le_refl _) (by omega))]) fu 0 oM (by omega) (by unfold fu; omega) hI
  exact ⟨s, h1, h2⟩
theorem spn_m {s oT oB : St} {n m w : Nat} (hw : wB oB n) (hm : mB s oB n) (hT : TB oT oB n) (hf : f_X5_foremost oT = some (nI m)) (hw4 : w < 4) : ∃ s', f_X7_spotsNow s (nI w) = some (ttF oT m w, s') ∧ kK s s' ∧ TM s' oB n := by
  obtain ⟨s1, k1, k2, k3⟩ := lay_spots hw hm
  obtain ⟨m', f1, f2⟩ := tot_same hw hT k3
  have em : nI m' = nI m := by
    rw [hf] at f1
    injection f1 with f1
    exact f1.symm
  obtain ⟨Z, E, t1, t2, ⟨t3, t4, t5, t6⟩, m1, m2, m3, m4⟩ := tabs hT k3
  unfold f_X7_spotsNow ttF
  rw [k1, bn1_s, f2, bn1_s, em, m1, m2, m3, t3, t4, t5]
  refine ⟨s1, ?_, k2, k3⟩
  have e0 : nI w = 0 ↔ w = 0 := nI_eq (b := 0) (by omega) (by omega)
  have e1 : nI w = 1 ↔ w = 1 := nI_eq (b := 1) (by omega) (by omega)
  have e2 : nI w = 2 ↔ w = 2 := nI_eq (b := 2) (by omega) (by omega)
  simp only [e0, e1, e2]
  by_cases c0 : w = 0
  · rw [if_pos c0, if_pos c0]
  · rw [if_neg c0, if_neg c0]
    by_cases c1 : w = 1
    · rw [if_pos c1, if_pos c1]
    · rw [if_neg c1, if_neg c1]
      by_cases c2 : w = 2
      · rw [if_pos c2, if_pos c2]
      · rw [if_neg c2, if_neg c2]
theorem m59 {oM0 oM oT oB : St} {n m : Nat} (hw : wB oB n) (hm : mB oM0 oB n) (hT : TB oT oB n) (hf : f_X5_foremost oT = some (nI m)) (K : St → Option St) {h : Int64} (hI : mxI oM0 oM h) : ∃ s, f_X7_mixSheet_L59 K fu 0 oM = K s ∧ mxI oM0 s (fm (ttF oT m) 4 h) ∧ TM s oB n := by
  obtain ⟨s, h1, h2⟩ := lpn (fun fuel k (s : St) => f_X7_mixSheet_L59 K fuel (nI k) s) (fun s => K s) 4 (fun k s => mxI oM0 s (fm (ttF oT m) k h) ∧ (0 < k → TM s oB n)) (by
    intro fuel k s hk hs
    obtain ⟨s1, k1, k2, k3⟩ := spn_m hw (hm.k hs.1.1) hT hf hk
    have hs1 : mxI oM0 s1 (fm (ttF oT m) k h) := ⟨hs.1.1.tr k2.1, k2.2.trans hs.1.2⟩
    obtain ⟨s', g1, g2, g3, g4⟩ := mix_m hs1 (ttF oT m k)
    refine ⟨s', ?_, g2, fun _ => k3.same g3 g4⟩
    show f_X7_mixSheet_L59 K (fuel + 1) (nI k) s = f_X7_mixSheet_L59 K fuel (nI (k + 1)) s'
    rw [f_X7_mixSheet_L59_s, if_neg (show ¬ (4 : Int32) ≤ nI k from nI_ge (b := 4) hk (by decide)), k1, bn2_s, g1, bn1_s, nI_1]) (by
    intro fuel s hs
    show f_X7_mixSheet_L59 K (fuel + 1) (nI 4) s = _
    rw [f_X7_mixSheet_L59_s, if_pos (by decide)]) fu 0 oM (by omega) (by unfold fu; omega) ⟨hI, fun z => by omega⟩
  exact ⟨s, h1, h2.1, h2.2 (by omega)⟩
theorem m82 {oM0 oM oB : St} {n Z : Nat} {E : Nat → Nat} (hw : wB oB n) (hm : mB oM0 oB n) (hZ : Z ≤ 364) (h36 : oM.1 36 = nI Z) (hE : eT oM Z E) (K : St → Option St) {h : Int64} (hI : mxI oM0 oM h) : ∃ s, f_X7_mixSheet_L82 K fu 0 oM = K s ∧ mxI oM0 s (fm (tlF oB n E) (7 * Z) h) := by
  obtain ⟨s, h1, h2⟩ := lpn (fun fuel k (s : St) => f_X7_mixSheet_L82 K fuel (nI k) s) (fun s => K s) (7 * Z) (fun k s => mxI oM0 s (fm (tlF oB n E) k h) ∧ s.1 = oM.1 ∧ s.2.2 = oM.2.2) (by
    intro fuel k s hk hs
    obtain ⟨s', g1, g2, g3, g4⟩ := mix_m hs.1 (tlF oB n E k)
    refine ⟨s', ?_, g2, g3.trans hs.2.1, g4.trans hs.2.2⟩
    obtain ⟨d1, d2⟩ := dv (k := k) (m := 7) (by omega) (by omega) (by omega)
    have e7 : (7 : Int32) * nI Z = nI (7 * Z) := nI_mul 7 Z
    have hEs : eT s Z E := by unfold eT; rw [hs.2.2]; exact hE
    show f_X7_mixSheet_L82 K (fuel + 1) (nI k) s = f_X7_mixSheet_L82 K fuel (nI (k + 1)) s'
    rw [f_X7_mixSheet_L82_s, hs.2.1, h36, e7, if_neg (nI_ge hk (by omega)), show nI k / 7 = nI (k / 7) from d1, show nI k - nI (k / 7) * 7 = nI (k % 7) from d2, tell_m hw (hm.k hs.1.1) hZ hEs (show k / 7 < Z by omega) _ (w_in (m := 6) (by omega) (by omega)), bn1_s]
    rw [show tlS oB n (E (k / 7)) (nI (k % 7)) = tlF oB n E k from rfl, g1, bn1_s, nI_1]) (by
    intro fuel s hs
    have e7 : (7 : Int32) * nI Z = nI (7 * Z) := nI_mul 7 Z
    show f_X7_mixSheet_L82 K (fuel + 1) (nI (7 * Z)) s = _
    rw [f_X7_mixSheet_L82_s, hs.2.1, h36, e7, if_pos (nI_le (Nat.le_refl _) (by omega))]) fu 0 oM (by omega) (by unfold fu; omega) ⟨hI, rfl, rfl⟩
  exact ⟨s, h1, h2.1⟩
set_option maxHeartbeats 4000000 in
theorem m118 {oM0 oM oR oB : St} {n q : Nat} (hw : wB oB n) (hm : mB oM0 oB n) (hR : RR oR oM0 n) (hq : q ≤ 7) (h4 : oR.1 4 = nI q) {h : Int64} (hI : mxI oM0 oM h) : ∃ s, f_X7_mixSheet_L118 fu 0 oM = some s ∧ mxI oM0 s (fm (rgF oR oB n) (7 * q) h) := by
  rcases hR with ⟨r1, r2, r3⟩ | ⟨r1, r2, q', s1, s2, s3, s4, s5, s6⟩
  · have e : q = 0 := by
      rw [r3] at h4
      exact ((nI_eq (a := 0) (by omega) (by omega)).mp h4).symm
    subst e
    refine ⟨oM, ?_, hI⟩
    have h10 : oM.1 10 = 0 := by rw [(hI.1 10 (by omega)).1, r2]
    rw [show fu = 4999 + 1 from rfl, f_X7_mixSheet_L118_s, if_pos h10]
    split <;> rfl
  · have e : q' = q := by
      rw [s1] at h4
      exact (nI_eq (by omega) (by omega)).mp h4
    subst e
    obtain ⟨s, h1, h2⟩ := lpn (fun fuel k (s : St) => f_X7_mixSheet_L118 fuel (nI k) s) (fun s => some s) (7 * q') (fun k s => mxI oM0 s (fm (rgF oR oB n) k h)) (by
      intro fuel k s hk hs
      obtain ⟨s', g1, g2, -⟩ := mix_m hs (rgF oR oB n k)
      refine ⟨s', ?_, g2⟩
      obtain ⟨d1, d2⟩ := dv (k := k) (m := 7) (by omega) (by omega) (by omega)
      have e7 : (7 : Int32) * nI q' = nI (7 * q') := nI_mul 7 q'
      obtain ⟨kk, k1, k2, k3, k4, k5⟩ := s4 (k / 7) (by omega)
      obtain ⟨-, ek⟩ := clamp_nI k2 (by omega)
      have a12 : s.2.2 12 (k / 7) = nI (kk % 32) := by rw [(hs.1 12 (by omega)).2]; exact k3
      have a13 : s.2.2 13 (k / 7) = nI (kk / 32 % 32) := by rw [(hs.1 13 (by omega)).2]; exact k4
      have a14 : s.2.2 14 (k / 7) = nI (kk / 1024 % 32) := by rw [(hs.1 14 (by omega)).2]; exact k5
      have a15 : s.2.2 15 = oM0.2.2 15 := (hs.1 15 (by omega)).2
      show f_X7_mixSheet_L118 (fuel + 1) (nI k) s = f_X7_mixSheet_L118 fuel (nI (k + 1)) s'
      have rt := rtell_m hw (hm.k hs.1) (show k / 7 < 14 by omega) a12 a13 a14 (nI (k % 7)) (w_in (m := 6) (by omega) (by omega))
      rw [a15, ← s5 (k / 7) (by omega)] at rt
      rw [f_X7_mixSheet_L118_s, (hs.1 11 (by omega)).1, s2, e7, if_neg (nI_ge hk (by omega)), (hs.1 10 (by omega)).1, r2, if_neg (by decide), show nI k / 7 = nI (k / 7) from d1, show nI k - nI (k / 7) * 7 = nI (k % 7) from d2, rt, bn1_s]
      rw [show rgS oB n kk (oR.2.2 6 (k / 7)) (nI (k % 7)) = rgF oR oB n k by unfold rgF; rw [ek], g1, bn1_s, nI_1]) (by
      intro fuel s hs
      have e7 : (7 : Int32) * nI q' = nI (7 * q') := nI_mul 7 q'
      show f_X7_mixSheet_L118 (fuel + 1) (nI (7 * q')) s = _
      rw [f_X7_mixSheet_L118_s, (hs.1 11 (by omega)).1, s2, e7, if_pos (nI_le (Nat.le_refl _) (by omega))]) fu 0 oM (by omega) (by unfold fu; omega) hI
    exact ⟨s, h1, h2⟩
theorem d20 {oM0 oM oP : St} {p : Nat} (hp : p ≤ 50) (h0 : oM0.1 0 = nI p) (h4 : ∀ j, j < p → oP.2.2 0 j = oM0.2.2 1 j) (K : St → Option (Int64 × St)) {h : Int64} (hI : mxI oM0 oM h) : ∃ s, f_X7_digest_L20 K fu 0 oM = K s ∧ mxI oM0 s (fm (fun j => oP.2.2 0 j) p h) := by
  obtain ⟨s, h1, h2⟩ := lpn (fun fuel k (s : St) => f_X7_digest_L20 K fuel (nI k) s) (fun s => K s) p (fun k s => mxI oM0 s (fm (fun j => oP.2.2 0 j) k h)) (by
    intro fuel k s hk hs
    obtain ⟨s', g1, g2, -⟩ := mix_m hs (oP.2.2 0 k)
    refine ⟨s', ?_, g2⟩
    show f_X7_digest_L20 K (fuel + 1) (nI k) s = f_X7_digest_L20 K fuel (nI (k + 1)) s'
    rw [f_X7_digest_L20_s, (hs.1 0 (by omega)).1, h0, if_neg (nI_ge hk (by omega)), ag_n (show k < 50 by omega) (by decide), bn1_s, (hs.1 1 (by omega)).2, ← h4 k hk, g1, bn1_s, nI_1]) (by
    intro fuel s hs
    show f_X7_digest_L20 K (fuel + 1) (nI p) s = _
    rw [f_X7_digest_L20_s, (hs.1 0 (by omega)).1, h0, if_pos (nI_le (Nat.le_refl _) (by omega))]) fu 0 oM (by omega) (by unfold fu; omega) hI
  exact ⟨s, h1, h2⟩
theorem d47 {oX oP oR oT oB oM0 oM : St} (hr : REL oX oP oR oT oB oM0) {h : Int64} (hI : mxI oM0 oM h) : ∃ s, f_X7_digest_L47 fu 0 oM = some (fm (cvF oX oP oR oB) 7 h, s) ∧ kM oM0 s := by
  obtain ⟨s, h1, h2⟩ := lpn (fun fuel k (s : St) => f_X7_digest_L47 fuel (nI k) s) (fun s => some (s.2.1 43, s)) 7 (fun k s => mxI oM0 s (fm (cvF oX oP oR oB) k h)) (by
    intro fuel k s hk hs
    obtain ⟨s', g1, g2, -⟩ := mix_m hs (cvF oX oP oR oB k)
    refine ⟨s', ?_, g2⟩
    show f_X7_digest_L47 (fuel + 1) (nI k) s = f_X7_digest_L47 fuel (nI (k + 1)) s'
    rw [f_X7_digest_L47_s, if_neg (show ¬ (7 : Int32) ≤ nI k from nI_ge (b := 7) hk (by decide)), (cv_both (hr.k hs.1 (fun _ _ _ h => h)) k).2, bn1_s, g1, bn1_s, nI_1]) (by
    intro fuel s hs
    show f_X7_digest_L47 (fuel + 1) (nI 7) s = _
    rw [f_X7_digest_L47_s, if_pos (by decide)]) fu 0 oM (by omega) (by unfold fu; omega) hI
  refine ⟨s, ?_, h2.1⟩
  rw [← h2.2]
  exact h1
set_option maxHeartbeats 4000000 in
theorem op_digest {oX oP oR oT oB oM : St} (h : REL oX oP oR oT oB oM) (oC oG : St) : ∃ r oT' oC' oG' oM', f_X6_digest oX oP oR oT oB oC oG = some (r, oT', oC', oG') ∧ f_X7_digest oM = some (r, oM') ∧ kM oM oM' ∧ ∀ n, wB oB n → mB oM oB n → fT oT oB n → fT oT' oB n := by
  have h0 := h
  obtain ⟨n, hw, hm, hT, ⟨p, p1, p2, p3, p4⟩, hR, c6, c7, c8⟩ := h
  have hI0 : mxI oM (sL oM 43 1559) 1559 := ⟨(kM.rf oM).l _, sL_same _ _ _⟩
  have hms : mB (sL oM 43 1559) oB n := hm.k hI0.1
  unfold f_X6_digest f_X7_digest
  rw [isThere_c, bn1_s, ite01, isSheet_m hms, bn1_s, ite01]
  by_cases hW : (oB.1 0).toInt ≤ 0
  · rw [if_pos hW, if_pos hW, dig41 p1 p2, dig77 h0]
    obtain ⟨s, g1, g2⟩ := d20 (oP := oP) p1 p3 p4 (fun (oM9 : St) => f_X7_digest_L47 fu 0 oM9) hI0
    obtain ⟨s', k1, k2⟩ := d47 h0 g2
    rw [g1, k1]
    exact ⟨_, _, _, _, _, rfl, rfl, k2, fun _ _ _ h => h⟩
  · obtain ⟨oT1, oC1, oG1, y1, y2⟩ := refresh_c hw hT oC oG
    obtain ⟨sx, -, -, kx⟩ := lay_spots hw hm
    obtain ⟨m, f1, -⟩ := tot_same hw y2 kx
    obtain ⟨Z, E, t1, t2, ⟨t3, t4, t5, t6⟩, -⟩ := tabs y2 kx
    obtain ⟨oG2, w2⟩ := wspots hw f1 t2 t3 (fun i hi => tab_b hw t1 hi) t6 (fm (tdF oB oM) (4 * n) (fm (fun w => abS oB (nI w)) 8 1559)) oG1
    obtain ⟨q, oG3, hq7, hq4, w3'⟩ := wrings hw hR (fm (tlF oB n E) (7 * Z) (fm (ttF oT1 m) 4 (fm (tdF oB oM) (4 * n) (fm (fun w => abS oB (nI w)) 8 1559)))) oG2
    rw [if_neg hW, if_neg hW, y1, bn3_s, wdots hw hW hR, bn1_s, w2, bn2_s, w3', bn2_s, dig41 p1 p2, dig77 h0]
    unfold f_X7_mixSheet
    obtain ⟨s5, x5, i5⟩ := m2 hw hm (fun (oM6 : St) => f_X7_mixSheet_L26 (fun (oM12 : St) => f_X7_mixSheet_L59 (fun (oM19 : St) => f_X7_mixSheet_L82 (fun (oM25 : St) => f_X7_mixSheet_L118 fu 0 oM25) fu 0 oM19) fu 0 oM12) fu 0 oM6) hI0
    obtain ⟨s6, x6, i6⟩ := m26 hw hm (fun (oM12 : St) => f_X7_mixSheet_L59 (fun (oM19 : St) => f_X7_mixSheet_L82 (fun (oM25 : St) => f_X7_mixSheet_L118 fu 0 oM25) fu 0 oM19) fu 0 oM12) i5
    obtain ⟨s7, x7, i7, tm7⟩ := m59 hw hm y2 f1 (fun (oM19 : St) => f_X7_mixSheet_L82 (fun (oM25 : St) => f_X7_mixSheet_L118 fu 0 oM25) fu 0 oM19) i6
    obtain ⟨Z7, E7, u1, u2, u3, u4, u5, u6⟩ := tm7
    obtain ⟨ez, ee⟩ := tab_one t1 u1
    subst ez
    have eE : eT s7 Z E := by
      intro i hi
      have := u6 i hi
      rw [← ee i hi] at this
      exact this
    obtain ⟨s8, x8, i8⟩ := m82 (E := E) hw hm t2 u3 eE (fun (oM25 : St) => f_X7_mixSheet_L118 fu 0 oM25) i7
    obtain ⟨s9, x9, i9⟩ := m118 hw hm hR hq7 hq4 i8
    obtain ⟨s10, g1, g2⟩ := d20 (oP := oP) p1 p3 p4 (fun (oM17 : St) => f_X7_digest_L47 fu 0 oM17) i9
    obtain ⟨s', k1, k2⟩ := d47 h0 g2
    rw [x5, x6, x7, x8, x9, bn1_s, g1, k1]
    refine ⟨_, _, _, _, _, rfl, rfl, k2, fun n' hw' hm' _ => ?_⟩
    have en : n' = n := by
      have a1 := hw'.2.1
      rw [hw.2.1] at a1
      exact ((nI_eq (by have := hw.1; omega) (by have := hw'.1; omega)).mp a1).symm
    rw [en]
    exact Or.inr y2
