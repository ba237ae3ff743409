/-! another bound -/
theorem REL_bound {oX oP oR oT oB oM oB' oM' : St} {n : Nat} (hm : mB oM oB n) (hp : pgR oP oM) (c6 : oX.1 6 = oM.1 4) (c7 : oX.1 7 = oM.1 16) (c8 : oX.1 8 = oM.1 17) (hw' : wB oB' n) (hI : ∀ k, k ≠ 10 → oM'.1 k = oM.1 k) (h10 : oM'.1 10 = 0) (hA : ∀ k, k ≠ 9 → oM'.2.2 k = oM.2.2 k) (hB0 : oB'.1 0 = oB.1 0) (hB1 : oB'.1 1 = oB.1 1) (hBR : oB'.2.2 = oB.2.2)
    (h9 : oM'.2.2 9 0 = oB'.1 3 ∧ oM'.2.2 9 1 = oB'.1 4 ∧ oM'.2.2 9 2 = oB'.1 5 ∧ oM'.2.2 9 3 = oB'.1 6 ∧ oM'.2.2 9 4 = oB'.1 7) : REL oX oP (sI (sI oR 3 0) 4 0) (sI oT 3 0) oB' oM' := by
  obtain ⟨m1, m2, m3, m4, -⟩ := hm
  refine ⟨n, hw', ⟨?_, ?_, ?_, ?_, h9⟩, Or.inl rfl, ?_, Or.inl ⟨rfl, h10, rfl⟩, ?_, ?_, ?_⟩
  · rw [hI 2 (by omega), hB0]; exact m1
  · rw [hI 3 (by omega), hB1]; exact m2
  · rw [hI 5 (by omega)]; exact m3
  · rw [hA 6 (by omega), hA 7 (by omega), hA 8 (by omega), hBR]; exact m4
  · obtain ⟨p, p1, p2, p3, p4⟩ := hp
    exact ⟨p, p1, p2, by rw [hI 0 (by omega)]; exact p3, by rw [hA 1 (by omega)]; exact p4⟩
  · rw [hI 4 (by omega)]; exact c6
  · rw [hI 16 (by omega)]; exact c7
  · rw [hI 17 (by omega)]; exact c8
theorem wi_b {x : Int32} {P : Prop} [Decidable P] (h : x = if P then 1 else 0) : x = 0 ∨ x = 1 := by
  rw [h]
  by_cases c : P
  · rw [if_pos c]; exact Or.inr rfl
  · rw [if_neg c]; exact Or.inl rfl
def oMb (oM : St) (k : Nat) (v : Int32) : St := sI (sR oM 9 (upd (oM.2.2 9) k v)) 10 0
theorem oMb_I (oM : St) (k : Nat) (v : Int32) : ∀ q, q ≠ 10 → (oMb oM k v).1 q = oM.1 q := fun q hq => by unfold oMb; rw [sI_1, if_neg hq]; rfl
theorem oMb_A (oM : St) (k : Nat) (v : Int32) : ∀ q, q ≠ 9 → (oMb oM k v).2.2 q = oM.2.2 q := fun q hq => by unfold oMb; show (sR oM 9 _).2.2 q = _; rw [sR_3, if_neg hq]
theorem bound_k {k : Nat} (hk : k < 5) {oX oP oR oT oB oM : St} {n : Nat} (h0 : REL oX oP oR oT oB oM) (hw : wB oB n) (hm : mB oM oB n) (hp : pgR oP oM) (c6 : oX.1 6 = oM.1 4) (c7 : oX.1 7 = oM.1 16) (c8 : oX.1 8 = oM.1 17) (hW : ¬ (oB.1 0).toInt ≤ 0) (v a b : Int32) (ha : f_X0_allows oB (nI k) v = f_X7_within v a b) (hb : f_X7_isBound oM (nI k) v = bn1 (f_X7_within v a b) fun x => if x = 0 ∨ x = 1 then some x else none)
    (hs : f_X0_setBound oB (nI k) v = some (sI oB (3 + k) v)) (hq : ag 5 (oM.2.2 9) (nI k) = some (oB.1 (3 + k))) (hab : abS oB (nI k + 3) = oB.1 (3 + k)) (h3 : (0 : Int) ≤ (nI k + 3).toInt ∧ (nI k + 3).toInt ≤ 7) (hw' : a.toInt ≤ v.toInt ∧ v.toInt ≤ b.toInt → wB (sI oB (3 + k) v) n) (h9 : (oMb oM k v).2.2 9 0 = (sI oB (3 + k) v).1 3 ∧ (oMb oM k v).2.2 9 1 = (sI oB (3 + k) v).1 4 ∧ (oMb oM k v).2.2 9 2 = (sI oB (3 + k) v).1 5 ∧ (oMb oM k v).2.2 9 3 = (sI oB (3 + k) v).1 6 ∧ (oMb oM k v).2.2 9 4 = (sI oB (3 + k) v).1 7) :
    ∃ r oR' oT' oB' oM', f_X6_bound oR oT oB (nI k) v = some (r, oR', oT', oB') ∧ f_X7_bound oM (nI k) v = some (r, oM') ∧ REL oX oP oR' oT' oB' oM' := by
  unfold f_X6_bound f_X7_bound
  rw [isThere_c, bn1_s, ite01, isSheet_m hm, bn1_s, ite01, if_neg hW, if_neg hW, ha, hb, within_m, bn1_s, ite10]
  by_cases c : a.toInt ≤ v.toInt ∧ v.toInt ≤ b.toInt
  · rw [if_pos c, if_pos c, bn1_s, if_pos (Or.inr rfl), bn1_s, if_neg (by decide), ab_c hW _ h3, bn1_s, hs, bn1_s, forget_c, bn2_s, hab, hq, bn1_s, aw_n hk (by decide), bn1_s]
    exact ⟨_, _, _, _, _, rfl, rfl, REL_bound hm hp c6 c7 c8 (hw' c) (oMb_I oM k v) rfl (oMb_A oM k v) (by rw [sI_1, if_neg (by omega)]) (by rw [sI_1, if_neg (by omega)]) rfl h9⟩
  · rw [if_neg c, if_neg c, bn1_s, if_pos (Or.inl rfl), bn1_s, if_pos rfl]
    exact ⟨_, _, _, _, _, rfl, rfl, h0⟩
theorem oMb_9 (oM : St) (k : Nat) (v : Int32) (q : Nat) : (oMb oM k v).2.2 9 q = if q = k then v else oM.2.2 9 q := by
  unfold oMb
  show (sR oM 9 (upd (oM.2.2 9) k v)).2.2 9 q = _
  rw [sR_3, if_pos rfl, upd_e]
theorem al_0 (oB : St) (v : Int32) : f_X0_allows oB (nI 0) v = f_X7_within v 1 (oB.1 4) := by
  unfold f_X0_allows f_X7_within
  rw [if_pos (by decide)]
theorem sb_0 (oB : St) (v : Int32) : f_X0_setBound oB (nI 0) v = some (sI oB (3 + 0) v) := by
  unfold f_X0_setBound
  rw [if_pos (by decide)]
theorem ab_0 (oB : St) : abS oB (nI 0 + 3) = oB.1 (3 + 0) := by
  unfold abS
  rw [if_neg (by decide), if_neg (by decide), if_neg (by decide), if_pos (by decide)]
theorem ib_0 (oM : St) (v : Int32) : f_X7_isBound oM (nI 0) v = (bn1 (ag 5 (oM.2.2 9) 1) fun x2 => bn1 (f_X7_within v 1 x2) fun x => if x = 0 ∨ x = 1 then some x else none) := by
  unfold f_X7_isBound
  rw [if_pos (by decide)]
theorem nn_0 {oM oB : St} (v : Int32) (m0 : oM.2.2 9 0 = oB.1 3) (m1 : oM.2.2 9 1 = oB.1 4) (m2 : oM.2.2 9 2 = oB.1 5) (m3 : oM.2.2 9 3 = oB.1 6) (m4 : oM.2.2 9 4 = oB.1 7) : (oMb oM 0 v).2.2 9 0 = (sI oB (3 + 0) v).1 3 ∧ (oMb oM 0 v).2.2 9 1 = (sI oB (3 + 0) v).1 4 ∧ (oMb oM 0 v).2.2 9 2 = (sI oB (3 + 0) v).1 5 ∧ (oMb oM 0 v).2.2 9 3 = (sI oB (3 + 0) v).1 6 ∧ (oMb oM 0 v).2.2 9 4 = (sI oB (3 + 0) v).1 7 :=
  ⟨by rw [oMb_9, sI_1, if_pos rfl, if_pos rfl], by rw [oMb_9, sI_1, if_neg (by decide), if_neg (by decide)]; exact m1, by rw [oMb_9, sI_1, if_neg (by decide), if_neg (by decide)]; exact m2, by rw [oMb_9, sI_1, if_neg (by decide), if_neg (by decide)]; exact m3, by rw [oMb_9, sI_1, if_neg (by decide), if_neg (by decide)]; exact m4⟩
theorem al_1 (oB : St) (v : Int32) : f_X0_allows oB (nI 1) v = f_X7_within v (oB.1 3) 22 := by
  unfold f_X0_allows f_X7_within
  rw [if_neg (by decide), if_pos (by decide)]
theorem sb_1 (oB : St) (v : Int32) : f_X0_setBound oB (nI 1) v = some (sI oB (3 + 1) v) := by
  unfold f_X0_setBound
  rw [if_neg (by decide), if_pos (by decide)]
theorem ab_1 (oB : St) : abS oB (nI 1 + 3) = oB.1 (3 + 1) := by
  unfold abS
  rw [if_neg (by decide), if_neg (by decide), if_neg (by decide), if_neg (by decide), if_pos (by decide)]
theorem ib_1 (oM : St) (v : Int32) : f_X7_isBound oM (nI 1) v = (bn1 (ag 5 (oM.2.2 9) 0) fun x2 => bn1 (f_X7_within v x2 22) fun x => if x = 0 ∨ x = 1 then some x else none) := by
  unfold f_X7_isBound
  rw [if_neg (by decide), if_pos (by decide)]
theorem nn_1 {oM oB : St} (v : Int32) (m0 : oM.2.2 9 0 = oB.1 3) (m1 : oM.2.2 9 1 = oB.1 4) (m2 : oM.2.2 9 2 = oB.1 5) (m3 : oM.2.2 9 3 = oB.1 6) (m4 : oM.2.2 9 4 = oB.1 7) : (oMb oM 1 v).2.2 9 0 = (sI oB (3 + 1) v).1 3 ∧ (oMb oM 1 v).2.2 9 1 = (sI oB (3 + 1) v).1 4 ∧ (oMb oM 1 v).2.2 9 2 = (sI oB (3 + 1) v).1 5 ∧ (oMb oM 1 v).2.2 9 3 = (sI oB (3 + 1) v).1 6 ∧ (oMb oM 1 v).2.2 9 4 = (sI oB (3 + 1) v).1 7 :=
  ⟨by rw [oMb_9, sI_1, if_neg (by decide), if_neg (by decide)]; exact m0, by rw [oMb_9, sI_1, if_pos rfl, if_pos rfl], by rw [oMb_9, sI_1, if_neg (by decide), if_neg (by decide)]; exact m2, by rw [oMb_9, sI_1, if_neg (by decide), if_neg (by decide)]; exact m3, by rw [oMb_9, sI_1, if_neg (by decide), if_neg (by decide)]; exact m4⟩
theorem al_2 (oB : St) (v : Int32) : f_X0_allows oB (nI 2) v = f_X7_within v 0 4 := by
  unfold f_X0_allows f_X7_within
  rw [if_neg (by decide), if_neg (by decide), if_pos (by decide)]
theorem sb_2 (oB : St) (v : Int32) : f_X0_setBound oB (nI 2) v = some (sI oB (3 + 2) v) := by
  unfold f_X0_setBound
  rw [if_neg (by decide), if_neg (by decide), if_pos (by decide)]
theorem ab_2 (oB : St) : abS oB (nI 2 + 3) = oB.1 (3 + 2) := by
  unfold abS
  rw [if_neg (by decide), if_neg (by decide), if_neg (by decide), if_neg (by decide), if_neg (by decide), if_pos (by decide)]
theorem ib_2 (oM : St) (v : Int32) : f_X7_isBound oM (nI 2) v = (bn1 (f_X7_within v 0 4) fun x => if x = 0 ∨ x = 1 then some x else none) := by
  unfold f_X7_isBound
  rw [if_neg (by decide), if_neg (by decide), if_pos (by decide)]
theorem nn_2 {oM oB : St} (v : Int32) (m0 : oM.2.2 9 0 = oB.1 3) (m1 : oM.2.2 9 1 = oB.1 4) (m2 : oM.2.2 9 2 = oB.1 5) (m3 : oM.2.2 9 3 = oB.1 6) (m4 : oM.2.2 9 4 = oB.1 7) : (oMb oM 2 v).2.2 9 0 = (sI oB (3 + 2) v).1 3 ∧ (oMb oM 2 v).2.2 9 1 = (sI oB (3 + 2) v).1 4 ∧ (oMb oM 2 v).2.2 9 2 = (sI oB (3 + 2) v).1 5 ∧ (oMb oM 2 v).2.2 9 3 = (sI oB (3 + 2) v).1 6 ∧ (oMb oM 2 v).2.2 9 4 = (sI oB (3 + 2) v).1 7 :=
  ⟨by rw [oMb_9, sI_1, if_neg (by decide), if_neg (by decide)]; exact m0, by rw [oMb_9, sI_1, if_neg (by decide), if_neg (by decide)]; exact m1, by rw [oMb_9, sI_1, if_pos rfl, if_pos rfl], by rw [oMb_9, sI_1, if_neg (by decide), if_neg (by decide)]; exact m3, by rw [oMb_9, sI_1, if_neg (by decide), if_neg (by decide)]; exact m4⟩
theorem al_3 (oB : St) (v : Int32) : f_X0_allows oB (nI 3) v = f_X7_within v 2 14 := by
  unfold f_X0_allows f_X7_within
  rw [if_neg (by decide), if_neg (by decide), if_neg (by decide), if_pos (by decide)]
theorem sb_3 (oB : St) (v : Int32) : f_X0_setBound oB (nI 3) v = some (sI oB (3 + 3) v) := by
  unfold f_X0_setBound
  rw [if_neg (by decide), if_neg (by decide), if_neg (by decide), if_pos (by decide)]
theorem ab_3 (oB : St) : abS oB (nI 3 + 3) = oB.1 (3 + 3) := by
  unfold abS
  rw [if_neg (by decide), if_neg (by decide), if_neg (by decide), if_neg (by decide), if_neg (by decide), if_neg (by decide), if_pos (by decide)]
theorem ib_3 (oM : St) (v : Int32) : f_X7_isBound oM (nI 3) v = (bn1 (f_X7_within v 2 14) fun x => if x = 0 ∨ x = 1 then some x else none) := by
  unfold f_X7_isBound
  rw [if_neg (by decide), if_neg (by decide), if_neg (by decide), if_pos (by decide)]
theorem nn_3 {oM oB : St} (v : Int32) (m0 : oM.2.2 9 0 = oB.1 3) (m1 : oM.2.2 9 1 = oB.1 4) (m2 : oM.2.2 9 2 = oB.1 5) (m3 : oM.2.2 9 3 = oB.1 6) (m4 : oM.2.2 9 4 = oB.1 7) : (oMb oM 3 v).2.2 9 0 = (sI oB (3 + 3) v).1 3 ∧ (oMb oM 3 v).2.2 9 1 = (sI oB (3 + 3) v).1 4 ∧ (oMb oM 3 v).2.2 9 2 = (sI oB (3 + 3) v).1 5 ∧ (oMb oM 3 v).2.2 9 3 = (sI oB (3 + 3) v).1 6 ∧ (oMb oM 3 v).2.2 9 4 = (sI oB (3 + 3) v).1 7 :=
  ⟨by rw [oMb_9, sI_1, if_neg (by decide), if_neg (by decide)]; exact m0, by rw [oMb_9, sI_1, if_neg (by decide), if_neg (by decide)]; exact m1, by rw [oMb_9, sI_1, if_neg (by decide), if_neg (by decide)]; exact m2, by rw [oMb_9, sI_1, if_pos rfl, if_pos rfl], by rw [oMb_9, sI_1, if_neg (by decide), if_neg (by decide)]; exact m4⟩
theorem al_4 (oB : St) (v : Int32) : f_X0_allows oB (nI 4) v = f_X7_within v 1 8 := by
  unfold f_X0_allows f_X7_within
  rw [if_neg (by decide), if_neg (by decide), if_neg (by decide), if_neg (by decide), if_pos (by decide)]
theorem sb_4 (oB : St) (v : Int32) : f_X0_setBound oB (nI 4) v = some (sI oB (3 + 4) v) := by
  unfold f_X0_setBound
  rw [if_neg (by decide), if_neg (by decide), if_neg (by decide), if_neg (by decide), if_pos (by decide)]
theorem ab_4 (oB : St) : abS oB (nI 4 + 3) = oB.1 (3 + 4) := by
  unfold abS
  rw [if_neg (by decide), if_neg (by decide), if_neg (by decide), if_neg (by decide), if_neg (by decide), if_neg (by decide), if_neg (by decide)]
theorem ib_4 (oM : St) (v : Int32) : f_X7_isBound oM (nI 4) v = (bn1 (f_X7_within v 1 8) fun x => if x = 0 ∨ x = 1 then some x else none) := by
  unfold f_X7_isBound
  rw [if_neg (by decide), if_neg (by decide), if_neg (by decide), if_neg (by decide), if_pos (by decide)]
theorem nn_4 {oM oB : St} (v : Int32) (m0 : oM.2.2 9 0 = oB.1 3) (m1 : oM.2.2 9 1 = oB.1 4) (m2 : oM.2.2 9 2 = oB.1 5) (m3 : oM.2.2 9 3 = oB.1 6) (m4 : oM.2.2 9 4 = oB.1 7) : (oMb oM 4 v).2.2 9 0 = (sI oB (3 + 4) v).1 3 ∧ (oMb oM 4 v).2.2 9 1 = (sI oB (3 + 4) v).1 4 ∧ (oMb oM 4 v).2.2 9 2 = (sI oB (3 + 4) v).1 5 ∧ (oMb oM 4 v).2.2 9 3 = (sI oB (3 + 4) v).1 6 ∧ (oMb oM 4 v).2.2 9 4 = (sI oB (3 + 4) v).1 7 :=
  ⟨by rw [oMb_9, sI_1, if_neg (by decide), if_neg (by decide)]; exact m0, by rw [oMb_9, sI_1, if_neg (by decide), if_neg (by decide)]; exact m1, by rw [oMb_9, sI_1, if_neg (by decide), if_neg (by decide)]; exact m2, by rw [oMb_9, sI_1, if_neg (by decide), if_neg (by decide)]; exact m3, by rw [oMb_9, sI_1, if_pos rfl, if_pos rfl]⟩
theorem wb_0 {oB : St} {n : Nat} (hw : wB oB n) {v : Int32} (c : ((1 : Int) ≤ v.toInt ∧ v.toInt ≤ (oB.1 4).toInt)) : wB (sI oB (3 + 0) v) n := by
  obtain ⟨w1, w2, w3, w4, w5, w6, w7, w8, w9, w10, w11, w12⟩ := hw
  unfold wB
  have e : ∀ q, (sI oB (3 + 0) v).1 q = if q = 3 then v else oB.1 q := fun q => rfl
  rw [e 2, e 0, e 1, e 3, e 4, e 5, e 6, e 7]
  rw [if_neg (show ¬ 2 = 3 by decide), if_neg (show ¬ 0 = 3 by decide), if_neg (show ¬ 1 = 3 by decide), if_pos rfl, if_neg (show ¬ 4 = 3 by decide), if_neg (show ¬ 5 = 3 by decide), if_neg (show ¬ 6 = 3 by decide), if_neg (show ¬ 7 = 3 by decide)]
  refine ⟨w1, w2, w3, w4, by omega, w6, w7, w8, w9, w10, w11, w12⟩
theorem wb_1 {oB : St} {n : Nat} (hw : wB oB n) {v : Int32} (c : ((oB.1 3).toInt ≤ v.toInt ∧ v.toInt ≤ 22)) : wB (sI oB (3 + 1) v) n := by
  obtain ⟨w1, w2, w3, w4, w5, w6, w7, w8, w9, w10, w11, w12⟩ := hw
  unfold wB
  have e : ∀ q, (sI oB (3 + 1) v).1 q = if q = 4 then v else oB.1 q := fun q => rfl
  rw [e 2, e 0, e 1, e 3, e 4, e 5, e 6, e 7]
  rw [if_neg (show ¬ 2 = 4 by decide), if_neg (show ¬ 0 = 4 by decide), if_neg (show ¬ 1 = 4 by decide), if_neg (show ¬ 3 = 4 by decide), if_pos rfl, if_neg (show ¬ 5 = 4 by decide), if_neg (show ¬ 6 = 4 by decide), if_neg (show ¬ 7 = 4 by decide)]
  refine ⟨w1, w2, w3, w4, w5, by omega, w7, w8, w9, w10, w11, w12⟩
theorem wb_2 {oB : St} {n : Nat} (hw : wB oB n) {v : Int32} (c : ((0 : Int) ≤ v.toInt ∧ v.toInt ≤ 4)) : wB (sI oB (3 + 2) v) n := by
  obtain ⟨w1, w2, w3, w4, w5, w6, w7, w8, w9, w10, w11, w12⟩ := hw
  unfold wB
  have e : ∀ q, (sI oB (3 + 2) v).1 q = if q = 5 then v else oB.1 q := fun q => rfl
  rw [e 2, e 0, e 1, e 3, e 4, e 5, e 6, e 7]
  rw [if_neg (show ¬ 2 = 5 by decide), if_neg (show ¬ 0 = 5 by decide), if_neg (show ¬ 1 = 5 by decide), if_neg (show ¬ 3 = 5 by decide), if_neg (show ¬ 4 = 5 by decide), if_pos rfl, if_neg (show ¬ 6 = 5 by decide), if_neg (show ¬ 7 = 5 by decide)]
  refine ⟨w1, w2, w3, w4, w5, w6, by omega, w8, w9, w10, w11, w12⟩
theorem wb_3 {oB : St} {n : Nat} (hw : wB oB n) {v : Int32} (c : ((2 : Int) ≤ v.toInt ∧ v.toInt ≤ 14)) : wB (sI oB (3 + 3) v) n := by
  obtain ⟨w1, w2, w3, w4, w5, w6, w7, w8, w9, w10, w11, w12⟩ := hw
  unfold wB
  have e : ∀ q, (sI oB (3 + 3) v).1 q = if q = 6 then v else oB.1 q := fun q => rfl
  rw [e 2, e 0, e 1, e 3, e 4, e 5, e 6, e 7]
  rw [if_neg (show ¬ 2 = 6 by decide), if_neg (show ¬ 0 = 6 by decide), if_neg (show ¬ 1 = 6 by decide), if_neg (show ¬ 3 = 6 by decide), if_neg (show ¬ 4 = 6 by decide), if_neg (show ¬ 5 = 6 by decide), if_pos rfl, if_neg (show ¬ 7 = 6 by decide)]
  refine ⟨w1, w2, w3, w4, w5, w6, w7, by omega, w9, w10, w11, fun z => ⟨by omega, (w12 z).2⟩⟩
theorem wb_4 {oB : St} {n : Nat} (hw : wB oB n) {v : Int32} (c : ((1 : Int) ≤ v.toInt ∧ v.toInt ≤ 8)) : wB (sI oB (3 + 4) v) n := by
  obtain ⟨w1, w2, w3, w4, w5, w6, w7, w8, w9, w10, w11, w12⟩ := hw
  unfold wB
  have e : ∀ q, (sI oB (3 + 4) v).1 q = if q = 7 then v else oB.1 q := fun q => rfl
  rw [e 2, e 0, e 1, e 3, e 4, e 5, e 6, e 7]
  rw [if_neg (show ¬ 2 = 7 by decide), if_neg (show ¬ 0 = 7 by decide), if_neg (show ¬ 1 = 7 by decide), if_neg (show ¬ 3 = 7 by decide), if_neg (show ¬ 4 = 7 by decide), if_neg (show ¬ 5 = 7 by decide), if_neg (show ¬ 6 = 7 by decide), if_pos rfl]
  refine ⟨w1, w2, w3, w4, w5, w6, w7, w8, by omega, w10, w11, w12⟩
set_option maxHeartbeats 4000000 in
theorem op_bound {oX oP oR oT oB oM : St} (h : REL oX oP oR oT oB oM) (v1 v2 : Int32) : ∃ r oR' oT' oB' oM', f_X6_bound oR oT oB v1 v2 = some (r, oR', oT', oB') ∧ f_X7_bound oM v1 v2 = some (r, oM') ∧ REL oX oP oR' oT' oB' oM' := by
  have h0 := h
  obtain ⟨n, hw, hm, hT, hp, hR, c6, c7, c8⟩ := h
  have hm0 := hm
  by_cases hW : (oB.1 0).toInt ≤ 0
  · unfold f_X6_bound f_X7_bound
    rw [isThere_c, bn1_s, ite01, isSheet_m hm, bn1_s, ite01, if_pos hW, if_pos hW]
    exact ⟨_, _, _, _, _, rfl, rfl, h0⟩
  · obtain ⟨q0, q1, q2, q3, q4⟩ := bnds_m hm
    obtain ⟨-, -, -, -, m0, m1, m2, m3, m4⟩ := hm0
    by_cases e0 : v1 = nI 0
    · subst e0
      exact bound_k (k := 0) (by omega) h0 hw hm hp c6 c7 c8 hW v2 1 (oB.1 4) (al_0 oB v2) (by rw [ib_0, q1, bn1_s]) (sb_0 oB v2) q0 (ab_0 oB) (by decide) (fun c => wb_0 hw c) (nn_0 v2 m0 m1 m2 m3 m4)
    · by_cases e1 : v1 = nI 1
      · subst e1
        exact bound_k (k := 1) (by omega) h0 hw hm hp c6 c7 c8 hW v2 (oB.1 3) 22 (al_1 oB v2) (by rw [ib_1, q0, bn1_s]) (sb_1 oB v2) q1 (ab_1 oB) (by decide) (fun c => wb_1 hw c) (nn_1 v2 m0 m1 m2 m3 m4)
      · by_cases e2 : v1 = nI 2
        · subst e2
          exact bound_k (k := 2) (by omega) h0 hw hm hp c6 c7 c8 hW v2 0 4 (al_2 oB v2) (ib_2 oM v2) (sb_2 oB v2) q2 (ab_2 oB) (by decide) (fun c => wb_2 hw c) (nn_2 v2 m0 m1 m2 m3 m4)
        · by_cases e3 : v1 = nI 3
          · subst e3
            exact bound_k (k := 3) (by omega) h0 hw hm hp c6 c7 c8 hW v2 2 14 (al_3 oB v2) (ib_3 oM v2) (sb_3 oB v2) q3 (ab_3 oB) (by decide) (fun c => wb_3 hw c) (nn_3 v2 m0 m1 m2 m3 m4)
          · by_cases e4 : v1 = nI 4
            · subst e4
              exact bound_k (k := 4) (by omega) h0 hw hm hp c6 c7 c8 hW v2 1 8 (al_4 oB v2) (ib_4 oM v2) (sb_4 oB v2) q4 (ab_4 oB) (by decide) (fun c => wb_4 hw c) (nn_4 v2 m0 m1 m2 m3 m4)
            · unfold f_X6_bound f_X7_bound f_X0_allows f_X7_isBound
              have d0 : ¬ v1 = 0 := e0
              have d1 : ¬ v1 = 1 := e1
              have d2 : ¬ v1 = 2 := e2
              have d3 : ¬ v1 = 3 := e3
              have d4 : ¬ v1 = 4 := e4
              rw [isThere_c, bn1_s, ite01, isSheet_m hm, bn1_s, ite01, if_neg hW, if_neg hW, if_neg d0, if_neg d1, if_neg d2, if_neg d3, if_neg d4, if_neg d0, if_neg d1, if_neg d2, if_neg d3, if_neg d4, bn1_s, bn1_s, if_pos rfl, if_pos rfl]
              exact ⟨_, _, _, _, _, rfl, rfl, h0⟩
/-! the page -/
set_option maxHeartbeats 4000000 in
theorem op_letter {oX oP oR oT oB oM : St} (h : REL oX oP oR oT oB oM) (v1 : Int32) : ∃ r oP' oM', f_X6_letter oP v1 = some (r, oP') ∧ f_X7_letter oM v1 = some (r, oM') ∧ REL oX oP' oR oT oB oM' := by
  have h0 := h
  obtain ⟨n, hw, hm, hT, hp, hR, c6, c7, c8⟩ := h
  unfold f_X6_letter f_X7_letter
  rw [within_m, bn1_s, ite10]
  have e1 : v1 < 32 ↔ v1.toInt < 32 := by rw [Int32.lt_iff_toInt_lt]; rfl
  have e2 : v1 ≤ 126 ↔ v1.toInt ≤ 126 := by rw [Int32.le_iff_toInt_le]; rfl
  by_cases c : (32 : Int) ≤ v1.toInt ∧ v1.toInt ≤ 126
  · rw [if_neg (by rw [e1]; omega), if_pos (by rw [e2]; omega), if_pos (show Int32.toInt 32 ≤ v1.toInt ∧ v1.toInt ≤ Int32.toInt 126 from c)]
    obtain ⟨p, p1, p2, p3, p4⟩ := hp
    by_cases c2 : p < 50
    · unfold f_X2_put
      rw [p2, p3, if_pos (show nI p < (50 : Int32) from nI_lt (b := 50) c2 (by decide)), if_neg (show ¬ (50 : Int32) ≤ nI p from nI_ge (b := 50) c2 (by decide)), aw_n (show p < 50 by omega) (by decide), bn1_s, bn1_s, if_neg (show ¬ nI p = (50 : Int32) from fun z => by have := (nI_eq (b := 50) (by omega) (by omega)).mp z; omega), aw_n (show p < 50 by omega) (by decide), bn1_s]
      have y1 : (sR oP 0 (upd (oP.2.2 0) p v1)).1 1 = nI p := p2
      have y2 : (sR oM 1 (upd (oM.2.2 1) p v1)).1 0 = nI p := p3
      rw [y1, y2, nI_1]
      refine ⟨_, _, _, rfl, rfl, n, hw, ⟨hm.1, hm.2.1, hm.2.2.1, hm.2.2.2⟩, hT, ⟨p + 1, by omega, rfl, rfl, ?_⟩, ?_, c6, c7, c8⟩
      · intro j hj
        show upd (oP.2.2 0) p v1 j = upd (oM.2.2 1) p v1 j
        rw [upd_e, upd_e]
        by_cases e : j = p
        · rw [if_pos e, if_pos e]
        · rw [if_neg e, if_neg e]; exact p4 j (by omega)
      · rcases hR with ⟨r1, r2, r3⟩ | ⟨r1, r2, q, r3⟩
        · exact Or.inl ⟨r1, r2, r3⟩
        · exact Or.inr ⟨r1, r2, q, r3⟩
    · have e : p = 50 := by omega
      subst e
      rw [p2, p3, if_neg (by decide), if_pos (by rfl)]
      exact ⟨_, _, _, rfl, rfl, h0⟩
  · refine ⟨-102, oP, oM, ?_, ?_, h0⟩
    · by_cases h5 : v1 < 32
      · rw [if_pos h5]
      · rw [if_neg h5, if_neg (by rw [e2]; rw [e1] at h5; omega)]
    · rw [if_neg (show ¬ (Int32.toInt 32 ≤ v1.toInt ∧ v1.toInt ≤ Int32.toInt 126) from c)]
theorem op_blank {oX oP oR oT oB oM : St} (h : REL oX oP oR oT oB oM) : ∃ r oP' oM', f_X6_blank oP = some (r, oP') ∧ f_X7_blank oM = some (r, oM') ∧ REL oX oP' oR oT oB oM' := by
  obtain ⟨n, hw, hm, hT, ⟨p, p1, p2, p3, p4⟩, hR, c6, c7, c8⟩ := h
  unfold f_X6_blank f_X7_blank
  rw [p2, p3]
  refine ⟨_, _, _, rfl, rfl, n, hw, ⟨hm.1, hm.2.1, hm.2.2.1, hm.2.2.2⟩, hT, ⟨0, by omega, rfl, rfl, fun j hj => by omega⟩, ?_, c6, c7, c8⟩
  rcases hR with ⟨r1, r2, r3⟩ | ⟨r1, r2, q, r3⟩
  · exact Or.inl ⟨r1, r2, r3⟩
  · exact Or.inr ⟨r1, r2, q, r3⟩
