/-! boards; the reference's board -/
def wB (oB : St) (n : Nat) : Prop := n ≤ 14 ∧ oB.1 2 = nI n ∧ (0 ≤ (oB.1 0).toInt ∧ (oB.1 0).toInt ≤ 31) ∧ (0 ≤ (oB.1 1).toInt ∧ (oB.1 1).toInt ≤ 31) ∧ (0 ≤ (oB.1 3).toInt ∧ (oB.1 3).toInt ≤ 22) ∧ (0 ≤ (oB.1 4).toInt ∧ (oB.1 4).toInt ≤ 22) ∧ (0 ≤ (oB.1 5).toInt ∧ (oB.1 5).toInt ≤ 4) ∧ (0 ≤ (oB.1 6).toInt ∧ (oB.1 6).toInt ≤ 14) ∧ (0 ≤ (oB.1 7).toInt ∧ (oB.1 7).toInt ≤ 8) ∧ (∀ j, j < n → 0 ≤ (oB.2.2 8 j).toInt ∧ (oB.2.2 8 j).toInt < (oB.1 0).toInt ∧ 0 ≤ (oB.2.2 9 j).toInt ∧ (oB.2.2 9 j).toInt < (oB.1 1).toInt ∧ -1 ≤ (oB.2.2 10 j).toInt ∧ (oB.2.2 10 j).toInt ≤ 7) ∧ ((oB.1 0).toInt = 0 → n = 0) ∧ (0 < (oB.1 0).toInt → 2 ≤ (oB.1 6).toInt ∧ 1 ≤ (oB.1 1).toInt)
def mB (oM oB : St) (n : Nat) : Prop := oM.1 2 = oB.1 0 ∧ oM.1 3 = oB.1 1 ∧ oM.1 5 = nI n ∧ (∀ j, j < n → oM.2.2 6 j = oB.2.2 8 j ∧ oM.2.2 7 j = oB.2.2 9 j ∧ oM.2.2 8 j = oB.2.2 10 j) ∧ oM.2.2 9 0 = oB.1 3 ∧ oM.2.2 9 1 = oB.1 4 ∧ oM.2.2 9 2 = oB.1 5 ∧ oM.2.2 9 3 = oB.1 6 ∧ oM.2.2 9 4 = oB.1 7
/-- the reference's own state but for what is scratch -/
def kM (a b : St) : Prop := ∀ k, k < 18 → b.1 k = a.1 k ∧ b.2.2 k = a.2.2 k
theorem kM.rf (a : St) : kM a a := fun _ _ => ⟨rfl, rfl⟩
theorem kM.tr {a b c : St} (h : kM a b) (h2 : kM b c) : kM a c := fun k hk => ⟨(h2 k hk).1.trans (h k hk).1, (h2 k hk).2.trans (h k hk).2⟩
theorem kM.i {a b : St} (h : kM a b) {k : Nat} (v : Int32) (hk : 18 ≤ k) : kM a (sI b k v) := fun j hj => ⟨by rw [sI_1, if_neg (by omega)]; exact (h j hj).1, (h j hj).2⟩
theorem kM.l {a b : St} (h : kM a b) {k : Nat} (v : Int64) : kM a (sL b k v) := fun j hj => h j hj
theorem kM.r {a b : St} (h : kM a b) {k : Nat} (v : Nat → Int32) (hk : 18 ≤ k) : kM a (sR b k v) := fun j hj => ⟨(h j hj).1, by rw [sR_3, if_neg (by omega)]; exact (h j hj).2⟩
theorem mB.k {oM oM' oB : St} {n : Nat} (h : mB oM oB n) (hk : kM oM oM') : mB oM' oB n := by
  unfold mB at h ⊢
  rw [(hk 2 (by omega)).1, (hk 3 (by omega)).1, (hk 5 (by omega)).1, (hk 6 (by omega)).2, (hk 7 (by omega)).2, (hk 8 (by omega)).2, (hk 9 (by omega)).2]
  exact h
def pX (oB : St) (j : Nat) : Int := (oB.2.2 8 j).toInt
def pY (oB : St) (j : Nat) : Int := (oB.2.2 9 j).toInt
theorem wB.x {oB : St} {n j : Nat} (h : wB oB n) (hj : j < n) : bI (oB.2.2 8 j) (pX oB j) 30 ∧ bI (oB.2.2 9 j) (pY oB j) 30 ∧ 0 ≤ pX oB j ∧ 0 ≤ pY oB j := by
  obtain ⟨h1, h2, h3, h4, -, -, -, -, -, h5, -⟩ := h
  have := h5 j hj
  unfold pX pY
  exact ⟨⟨rfl, by omega⟩, ⟨rfl, by omega⟩, by omega, by omega⟩
/-! three dots: below the line, the middle -/
def sA (x y u v : Int) : Int := x * v - y * u
def sg (a : Int) : Int := if a < 0 then -1 else 1
def cA0 (oB : St) (a b c : Nat) : Int := sA (pX oB b - pX oB a) (pY oB b - pY oB a) (pX oB c - pX oB a) (pY oB c - pY oB a)
def cD (oB : St) (a b c : Nat) : Int := 2 * cA0 oB a b c * sg (cA0 oB a b c)
def cSq (oB : St) (a b : Nat) : Int := (pX oB b - pX oB a) * (pX oB b - pX oB a) + (pY oB b - pY oB a) * (pY oB b - pY oB a)
def cU (oB : St) (a b c : Nat) : Int := sg (cA0 oB a b c) * ((pY oB c - pY oB a) * cSq oB a b - (pY oB b - pY oB a) * cSq oB a c)
def cV (oB : St) (a b c : Nat) : Int := sg (cA0 oB a b c) * ((pX oB b - pX oB a) * cSq oB a c - (pX oB c - pX oB a) * cSq oB a b)
def cMX (oB : St) (a b c : Nat) : Int := cD oB a b c * pX oB a + cU oB a b c
def cMY (oB : St) (a b c : Nat) : Int := cD oB a b c * pY oB a + cV oB a b c
theorem bI.diff {x y : Int32} {v w : Int} (h1 : bI x v 30) (h2 : bI y w 30) (h3 : 0 ≤ v) (h4 : 0 ≤ w) : bI (x - y) (v - w) 30 := by
  have h := h1.sub h2 (by omega)
  obtain ⟨-, h1⟩ := h1
  obtain ⟨-, h2⟩ := h2
  exact ⟨h.1, by omega⟩
theorem sg_pos {a : Int} (h : ¬ a < 0) : sg a = 1 := if_neg h
theorem sg_neg {a : Int} (h : a < 0) : sg a = -1 := if_pos h
theorem cD_nn (oB : St) (a b c : Nat) : 0 ≤ cD oB a b c := by
  unfold cD
  by_cases h : cA0 oB a b c < 0
  · rw [sg_neg h]; omega
  · rw [sg_pos h]; omega
theorem cD_ev (oB : St) (a b c : Nat) : cD oB a b c = 0 ∨ 2 ≤ cD oB a b c := by
  unfold cD
  by_cases h : cA0 oB a b c < 0
  · rw [sg_neg h]; omega
  · rw [sg_pos h]; omega
theorem b1 : bI 1 1 1 := ⟨rfl, by decide⟩
theorem bm1 : bI (-1) (-1) 1 := ⟨rfl, by decide⟩
theorem b2 : bI 2 2 2 := ⟨rfl, by decide⟩
theorem l1 : bL 1 1 1 := ⟨rfl, by decide⟩
theorem lm1 : bL (-1) (-1) 1 := ⟨rfl, by decide⟩
theorem l2 : bL 2 2 2 := ⟨rfl, by decide⟩
theorem bI.ge0 {x : Int32} {v : Int} {m : Nat} (h : bI x v m) : 0 ≤ x ↔ 0 ≤ v := by rw [Int32.le_iff_toInt_le, h.1]; rfl
theorem bI.lt0 {x : Int32} {v : Int} {m : Nat} (h : bI x v m) : x < 0 ↔ v < 0 := by rw [Int32.lt_iff_toInt_lt, h.1]; rfl
theorem bI.le {x y : Int32} {v w : Int} {m k : Nat} (h : bI x v m) (h2 : bI y w k) : x ≤ y ↔ v ≤ w := by rw [Int32.le_iff_toInt_le, h.1, h2.1]
theorem bI.lt {x y : Int32} {v w : Int} {m k : Nat} (h : bI x v m) (h2 : bI y w k) : x < y ↔ v < w := by rw [Int32.lt_iff_toInt_lt, h.1, h2.1]
theorem bI.eqi {x y : Int32} {v w : Int} {m k : Nat} (h : bI x v m) (h2 : bI y w k) : x = y ↔ v = w := by rw [← Int32.toInt_inj, h.1, h2.1]
theorem bL.le {x y : Int64} {v w : Int} {m k : Nat} (h : bL x v m) (h2 : bL y w k) : x ≤ y ↔ v ≤ w := by rw [Int64.le_iff_toInt_le, h.1, h2.1]
theorem bL.lt {x y : Int64} {v w : Int} {m k : Nat} (h : bL x v m) (h2 : bL y w k) : x < y ↔ v < w := by rw [Int64.lt_iff_toInt_lt, h.1, h2.1]
theorem bL.eqi {x y : Int64} {v w : Int} {m k : Nat} (h : bL x v m) (h2 : bL y w k) : x = y ↔ v = w := by rw [← Int64.toInt_inj, h.1, h2.1]
theorem b0 : bI 0 0 0 := ⟨rfl, by decide⟩
theorem l0 : bL 0 0 0 := ⟨rfl, by decide⟩
set_option maxHeartbeats 4000000 in
theorem lay_c {oB : St} {n a b c : Nat} (hw : wB oB n) (ha : a < n) (hb : b < n) (hc : c < n) (oC : St) : ∃ d x y, f_X1_lay oC oB (nI a) (nI b) (nI c) = some (sI (sI (sI (sI (sI (sI oC 1 (nI a)) 2 (nI b)) 3 (nI c)) 4 d) 5 x) 6 y) ∧ bI d (cD oB a b c) 3600 ∧ bI x (cMX oB a b c) 216000 ∧ bI y (cMY oB a b c) 216000 := by
  have hn := hw.1
  obtain ⟨xa, ya, xa0, ya0⟩ := hw.x ha
  obtain ⟨xb, yb, xb0, yb0⟩ := hw.x hb
  obtain ⟨xc, yc, xc0, yc0⟩ := hw.x hc
  have dx := xb.diff xa xb0 xa0
  have dy := yb.diff ya yb0 ya0
  have du := xc.diff xa xc0 xa0
  have dv := yc.diff ya yc0 ya0
  have one := (dx.mul dx (by decide)).add (dy.mul dy (by decide)) (by decide)
  have two := (du.mul du (by decide)).add (dv.mul dv (by decide)) (by decide)
  have ar := (dx.mul dv (by decide)).sub (dy.mul du (by decide)) (by decide)
  have p1 := (dv.mul one (by decide)).sub (dy.mul two (by decide)) (by decide)
  have p2 := (dx.mul two (by decide)).sub (du.mul one (by decide)) (by decide)
  unfold f_X1_lay
  simp only [ag_n (show a < 14 by omega) (by decide), ag_n (show b < 14 by omega) (by decide), ag_n (show c < 14 by omega) (by decide), bn1_s]
  by_cases h : cA0 oB a b c < 0
  · rw [if_neg (by rw [ar.ge0]; exact Int.not_le.mpr h)]
    have D := (b2.mul ar (by decide)).mul bm1 (by decide)
    refine ⟨_, _, _, rfl, ?_, ?_, ?_⟩
    · unfold cD; rw [sg_neg h]; exact D.mono (by decide)
    · unfold cMX cD cU; rw [sg_neg h]; exact ((D.mul xa (by decide)).add (bm1.mul p1 (by decide)) (by decide)).mono (by decide)
    · unfold cMY cD cV; rw [sg_neg h]; exact ((D.mul ya (by decide)).add (bm1.mul p2 (by decide)) (by decide)).mono (by decide)
  · rw [if_pos (by rw [ar.ge0]; exact Int.not_lt.mp h)]
    have D := (b2.mul ar (by decide)).mul b1 (by decide)
    refine ⟨_, _, _, rfl, ?_, ?_, ?_⟩
    · unfold cD; rw [sg_pos h]; exact D.mono (by decide)
    · unfold cMX cD cU; rw [sg_pos h]; exact ((D.mul xa (by decide)).add (b1.mul p1 (by decide)) (by decide)).mono (by decide)
    · unfold cMY cD cV; rw [sg_pos h]; exact ((D.mul ya (by decide)).add (b1.mul p2 (by decide)) (by decide)).mono (by decide)
set_option maxHeartbeats 4000000 in
theorem lay_m {oB oM : St} {n a b c : Nat} (hw : wB oB n) (hm : mB oM oB n) (ha : a < n) (hb : b < n) (hc : c < n) : ∃ d x y, f_X7_layMiddle oM (nI a) (nI b) (nI c) = some (if cD oB a b c = 0 then 0 else 1, sL (sL (sL oM 30 d) 31 x) 32 y) ∧ bL d (cD oB a b c) 3600 ∧ bL x (cMX oB a b c) 216000 ∧ bL y (cMY oB a b c) 216000 := by
  have hn := hw.1
  obtain ⟨xa, ya, xa0, ya0⟩ := hw.x ha
  obtain ⟨xb, yb, xb0, yb0⟩ := hw.x hb
  obtain ⟨xc, yc, xc0, yc0⟩ := hw.x hc
  have dx := (xb.diff xa xb0 xa0).wide
  have dy := (yb.diff ya yb0 ya0).wide
  have du := (xc.diff xa xc0 xa0).wide
  have dv := (yc.diff ya yc0 ya0).wide
  have one := (dx.mul dx (by decide)).add (dy.mul dy (by decide)) (by decide)
  have two := (du.mul du (by decide)).add (dv.mul dv (by decide)) (by decide)
  have ar := l2.mul ((dx.mul dv (by decide)).sub (dy.mul du (by decide)) (by decide)) (by decide)
  have p1 := (dv.mul one (by decide)).sub (dy.mul two (by decide)) (by decide)
  have p2 := (dx.mul two (by decide)).sub (du.mul one (by decide)) (by decide)
  obtain ⟨-, -, -, hxy, -⟩ := hm
  unfold f_X7_layMiddle
  simp only [ag_n (show a < 14 by omega) (by decide), ag_n (show b < 14 by omega) (by decide), ag_n (show c < 14 by omega) (by decide), bn1_s, (hxy a ha).1, (hxy a ha).2.1, (hxy b hb).1, (hxy b hb).2.1, (hxy c hc).1, (hxy c hc).2.1, lg_cmp_ge, lg_cmp_eq]
  by_cases h : cA0 oB a b c < 0
  · have h0 : ¬ (0 : Int64) ≤ 2 * ((oB.2.2 8 b - oB.2.2 8 a).toInt64 * (oB.2.2 9 c - oB.2.2 9 a).toInt64 - (oB.2.2 9 b - oB.2.2 9 a).toInt64 * (oB.2.2 8 c - oB.2.2 8 a).toInt64) := by
      rw [l0.le ar]
      unfold cA0 sA at h
      omega
    have hz : cD oB a b c ≠ 0 := by unfold cD; rw [sg_neg h]; omega
    have h1 : ¬ 2 * ((oB.2.2 8 b - oB.2.2 8 a).toInt64 * (oB.2.2 9 c - oB.2.2 9 a).toInt64 - (oB.2.2 9 b - oB.2.2 9 a).toInt64 * (oB.2.2 8 c - oB.2.2 8 a).toInt64) = 0 := by
      rw [ar.eqi l0]
      unfold cA0 sA at h
      omega
    rw [if_neg h0, if_neg h0, if_neg h1, if_neg hz]
    have D := ar.neg (by decide)
    have e : -(2 * sA (pX oB b - pX oB a) (pY oB b - pY oB a) (pX oB c - pX oB a) (pY oB c - pY oB a)) = cD oB a b c := by unfold cD; rw [sg_neg h]; unfold cA0; omega
    have D := D.mono (k := 3600) (by decide)
    change bL _ (-(2 * sA (pX oB b - pX oB a) (pY oB b - pY oB a) (pX oB c - pX oB a) (pY oB c - pY oB a))) _ at D
    rw [e] at D
    refine ⟨_, _, _, rfl, D, ?_, ?_⟩
    · have := ((lm1.mul p1 (by decide)).add (xa.wide.mul D (by decide)) (by decide)).mono (k := 216000) (by decide)
      unfold cMX cU; rw [sg_neg h]
      rw [Int.mul_comm (cD oB a b c), Int.add_comm]
      exact this
    · have := ((lm1.mul p2 (by decide)).add (ya.wide.mul D (by decide)) (by decide)).mono (k := 216000) (by decide)
      unfold cMY cV; rw [sg_neg h]
      rw [Int.mul_comm (cD oB a b c), Int.add_comm]
      exact this
  · have h0 : (0 : Int64) ≤ 2 * ((oB.2.2 8 b - oB.2.2 8 a).toInt64 * (oB.2.2 9 c - oB.2.2 9 a).toInt64 - (oB.2.2 9 b - oB.2.2 9 a).toInt64 * (oB.2.2 8 c - oB.2.2 8 a).toInt64) := by
      rw [l0.le ar]
      unfold cA0 sA at h
      omega
    have e : 2 * sA (pX oB b - pX oB a) (pY oB b - pY oB a) (pX oB c - pX oB a) (pY oB c - pY oB a) = cD oB a b c := by unfold cD; rw [sg_pos h]; unfold cA0; omega
    have h1 : (2 * ((oB.2.2 8 b - oB.2.2 8 a).toInt64 * (oB.2.2 9 c - oB.2.2 9 a).toInt64 - (oB.2.2 9 b - oB.2.2 9 a).toInt64 * (oB.2.2 8 c - oB.2.2 8 a).toInt64) = 0) ↔ cD oB a b c = 0 := by
      rw [ar.eqi l0, ← e]
      rfl
    rw [if_pos h0, if_pos h0]
    have D := ar.mono (k := 3600) (by decide)
    change bL _ (2 * sA (pX oB b - pX oB a) (pY oB b - pY oB a) (pX oB c - pX oB a) (pY oB c - pY oB a)) _ at D
    rw [e] at D
    have hX := ((l1.mul p1 (by decide)).add (xa.wide.mul D (by decide)) (by decide)).mono (k := 216000) (by decide)
    have hY := ((l1.mul p2 (by decide)).add (ya.wide.mul D (by decide)) (by decide)).mono (k := 216000) (by decide)
    have eX : 1 * ((pY oB c - pY oB a) * cSq oB a b - (pY oB b - pY oB a) * cSq oB a c) + pX oB a * cD oB a b c = cMX oB a b c := by
      unfold cMX cU; rw [sg_pos h, Int.mul_comm (cD oB a b c), Int.add_comm]
    have eY : 1 * ((pX oB b - pX oB a) * cSq oB a c - (pX oB c - pX oB a) * cSq oB a b) + pY oB a * cD oB a b c = cMY oB a b c := by
      unfold cMY cV; rw [sg_pos h, Int.mul_comm (cD oB a b c), Int.add_comm]
    change bL _ (1 * ((pY oB c - pY oB a) * cSq oB a b - (pY oB b - pY oB a) * cSq oB a c) + pX oB a * cD oB a b c) _ at hX
    change bL _ (1 * ((pX oB b - pX oB a) * cSq oB a c - (pX oB c - pX oB a) * cSq oB a b) + pY oB a * cD oB a b c) _ at hY
    rw [eX] at hX
    rw [eY] at hY
    by_cases hz : cD oB a b c = 0
    · rw [if_pos (h1.mpr hz), if_pos hz]
      exact ⟨_, _, _, rfl, D, hX, hY⟩
    · rw [if_neg (fun q => hz (h1.mp q)), if_neg hz]
      exact ⟨_, _, _, rfl, D, hX, hY⟩
