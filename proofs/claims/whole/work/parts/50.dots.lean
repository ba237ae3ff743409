/-! a place that is taken -/
def exJ (p : Nat → Bool) : Nat → Bool
  | 0 => false
  | n + 1 => exJ p n || p n
theorem exJ_t {p : Nat → Bool} : ∀ {n : Nat}, exJ p n = true ↔ ∃ i, i < n ∧ p i = true
  | 0 => ⟨fun h => (by cases h), fun h => (by obtain ⟨i, h, _⟩ := h; omega)⟩
  | n + 1 => by
    unfold exJ
    rw [Bool.or_eq_true, exJ_t]
    constructor
    · rintro (⟨i, h1, h2⟩ | h)
      · exact ⟨i, by omega, h2⟩
      · exact ⟨n, by omega, h⟩
    · rintro ⟨i, h1, h2⟩
      rcases Nat.lt_or_ge i n with z | z
      · exact Or.inl ⟨i, z, h2⟩
      · rw [show i = n by omega] at h2; exact Or.inr h2
theorem exJ_s (p : Nat → Bool) (n : Nat) : exJ p (n + 1) = (exJ p n || p n) := rfl
theorem exJ_cong {p q : Nat → Bool} : ∀ {n : Nat}, (∀ i, i < n → p i = q i) → exJ p n = exJ q n
  | 0, _ => rfl
  | n + 1, h => by rw [exJ_s, exJ_s, exJ_cong (fun i hi => h i (by omega)), h n (by omega)]
def atP (oB : St) (x y : Int32) (j : Nat) : Bool := decide (oB.2.2 8 j = x) && decide (oB.2.2 9 j = y)
def tkS (oB : St) (n : Nat) (x y : Int32) : Bool := exJ (atP oB x y) n
theorem taken_c {oB : St} {n : Nat} (hn : n ≤ 14) (h2 : oB.1 2 = nI n) (x y : Int32) : f_X0_isTaken oB x y = some (if tkS oB n x y then 1 else 0) := by
  have key : ∀ (fuel i : Nat), n - i < fuel → i ≤ n → (∀ j, j < i → ¬ atP oB x y j = true) → f_X0_isTaken_L2 oB x y fuel (nI i) = some (if tkS oB n x y then 1 else 0) := by
    intro fuel
    induction fuel with
    | zero => intro i h; omega
    | succ fuel ih =>
      intro i hf hi hk
      rw [f_X0_isTaken_L2_s, h2]
      by_cases h1 : n ≤ i
      · have e : tkS oB n x y = false := by
          rcases Bool.eq_false_or_eq_true (tkS oB n x y) with z | z
          · obtain ⟨j, hj, h9⟩ := exJ_t.mp z
            exact absurd h9 (hk j (by omega))
          · exact z
        rw [if_pos (nI_le h1 (by omega)), e]
        rfl
      · have go9 : ¬ atP oB x y i = true → f_X0_isTaken_L2 oB x y fuel (nI (i + 1)) = some (if tkS oB n x y then 1 else 0) := fun hne => ih (i + 1) (by omega) (by omega) (fun j hj => by
          rcases Nat.lt_or_ge j i with q | q
          · exact hk j q
          · rw [show j = i by omega]; exact hne)
        rw [if_neg (nI_ge (by omega) (by omega)), ag_n (show i < 14 by omega) (by decide), ag_n (show i < 14 by omega) (by decide), bn1_s, bn1_s, nI_1]
        by_cases c1 : oB.2.2 8 i = x
        · rw [if_pos c1]
          by_cases c2 : oB.2.2 9 i = y
          · have e : tkS oB n x y = true := exJ_t.mpr ⟨i, by omega, by unfold atP; rw [decide_eq_true c1, decide_eq_true c2]; rfl⟩
            rw [if_pos c2, e]; rfl
          · rw [if_neg c2]; exact go9 (by unfold atP; rw [decide_eq_false c2, Bool.and_false]; decide)
        · rw [if_neg c1]; exact go9 (by unfold atP; rw [decide_eq_false c1, Bool.false_and]; decide)
  exact key fu 0 (by unfold fu; omega) (Nat.zero_le _) (fun j hj => by omega)
theorem taken_m {oM oB : St} {n : Nat} (hn : n ≤ 14) (hm : mB oM oB n) (x y : Int32) : f_X7_isTaken oM x y = some (if tkS oB n x y then 1 else 0) := by
  obtain ⟨-, -, h5, hxy, -⟩ := hm
  obtain ⟨s, h1, h2⟩ := lpn (fun fuel k (s : Int32) => f_X7_isTaken_L5 oM x y fuel s (nI k)) (fun s => if s = 0 ∨ s = 1 then some s else none) n (fun k s => s = if exJ (atP oB x y) k then 1 else 0) (by
    intro fuel k s hk hs
    refine ⟨_, ?_, rfl⟩
    show f_X7_isTaken_L5 oM x y (fuel + 1) s (nI k) = f_X7_isTaken_L5 oM x y fuel (if exJ (atP oB x y) (k + 1) then 1 else 0) (nI (k + 1))
    rw [f_X7_isTaken_L5_s, h5, if_neg (nI_ge hk (by omega)), ag_n (show k < 14 by omega) (by decide), ag_n (show k < 14 by omega) (by decide), bn1_s, bn1_s, (hxy k hk).1, (hxy k hk).2.1, hs, nI_1, ite10, exJ_s]
    by_cases c : exJ (atP oB x y) k = true
    · rw [if_pos c, c]; rfl
    · rw [if_neg c]
      rw [Bool.not_eq_true] at c
      rw [c, Bool.false_or]
      unfold atP
      by_cases c1 : oB.2.2 8 k = x
      · rw [if_pos c1, decide_eq_true c1]
        by_cases c2 : oB.2.2 9 k = y
        · rw [if_pos c2, decide_eq_true c2]; rfl
        · rw [if_neg c2, decide_eq_false c2]; rfl
      · rw [if_neg c1, decide_eq_false c1]; rfl) (by
    intro fuel s hs
    show f_X7_isTaken_L5 oM x y (fuel + 1) s (nI n) = _
    rw [f_X7_isTaken_L5_s, h5, if_pos (nI_le (Nat.le_refl _) (by omega))]) fu 0 0 (by omega) (by unfold fu; omega) rfl
  have h1 : f_X7_isTaken oM x y = if s = 0 ∨ s = 1 then some s else none := h1
  rw [h1, h2]
  unfold tkS
  cases exJ (atP oB x y) n <;> rfl
theorem bAny (x : Int32) : bI x x.toInt 2147483648 := ⟨rfl, by have := fb_rng x; omega⟩
theorem onB_e {oB : St} {x y : Int32} (h : onB oB x.toInt y.toInt = true) : 0 ≤ x.toInt ∧ x.toInt < (oB.1 0).toInt ∧ 0 ≤ y.toInt ∧ y.toInt < (oB.1 1).toInt := by
  unfold onB at h
  simp only [Bool.and_eq_true, decide_eq_true_eq] at h
  omega
/-- a board, its reference, with one dot more -/
def addB (oB : St) (n : Nat) (x y t : Int32) : St := sI (sR (sR (sR oB 8 (upd (oB.2.2 8) n x)) 9 (upd (oB.2.2 9) n y)) 10 (upd (oB.2.2 10) n t)) 2 (nI (n + 1))
def addM (oM : St) (n : Nat) (x y t : Int32) : St := sI (sI (sR (sR (sR oM 6 (upd (oM.2.2 6) n x)) 7 (upd (oM.2.2 7) n y)) 8 (upd (oM.2.2 8) n t)) 5 (nI (n + 1))) 10 0
theorem comes_m {oM : St} {n : Nat} (hn : n < 14) (h5 : oM.1 5 = nI n) (x y t : Int32) : f_X7_comes oM x y t = some (addM oM n x y t) := by
  unfold f_X7_comes
  rw [h5, aw_n (show n < 14 by omega) (by decide), bn1_s, show (sR oM 6 (upd (oM.2.2 6) n x)).1 5 = nI n from h5, aw_n (show n < 14 by omega) (by decide), bn1_s, show ∀ f, (sR (sR oM 6 (upd (oM.2.2 6) n x)) 7 f).1 5 = nI n from fun _ => h5, aw_n (show n < 14 by omega) (by decide), bn1_s, show ∀ f g, (sR (sR (sR oM 6 (upd (oM.2.2 6) n x)) 7 f) 8 g).1 5 = nI n from fun _ _ => h5, nI_1]
  rfl
theorem wB_add {oB : St} {n : Nat} (hw : wB oB n) (hn : n < 14) {x y t : Int32} (ho : onB oB x.toInt y.toInt = true) (ht : -1 ≤ t.toInt ∧ t.toInt ≤ 7) : wB (addB oB n x y t) (n + 1) := by
  obtain ⟨h1, h2, h3, h4, h5, h6, h7, h8, h9, h10, h11, h12⟩ := hw
  have he := onB_e ho
  refine ⟨by omega, rfl, h3, h4, h5, h6, h7, h8, h9, fun j hj => ?_, fun z => ?_, h12⟩
  · show 0 ≤ (upd (oB.2.2 8) n x j).toInt ∧ (upd (oB.2.2 8) n x j).toInt < (oB.1 0).toInt ∧ 0 ≤ (upd (oB.2.2 9) n y j).toInt ∧ (upd (oB.2.2 9) n y j).toInt < (oB.1 1).toInt ∧ -1 ≤ (upd (oB.2.2 10) n t j).toInt ∧ (upd (oB.2.2 10) n t j).toInt ≤ 7
    rw [upd_e, upd_e, upd_e]
    by_cases e : j = n
    · rw [if_pos e, if_pos e, if_pos e]; omega
    · rw [if_neg e, if_neg e, if_neg e]; exact h10 j (by omega)
  · have z : (oB.1 0).toInt = 0 := z
    omega
theorem mB_add {oB oM : St} {n : Nat} (hm : mB oM oB n) (x y t : Int32) : mB (addM oM n x y t) (addB oB n x y t) (n + 1) := by
  obtain ⟨h1, h2, h3, h4, h5⟩ := hm
  refine ⟨h1, h2, rfl, fun j hj => ?_, h5⟩
  show upd (oM.2.2 6) n x j = upd (oB.2.2 8) n x j ∧ upd (oM.2.2 7) n y j = upd (oB.2.2 9) n y j ∧ upd (oM.2.2 8) n t j = upd (oB.2.2 10) n t j
  simp only [upd_e]
  by_cases e : j = n
  · simp only [if_pos e]; exact ⟨trivial, trivial, trivial⟩
  · simp only [if_neg e]; exact h4 j (by omega)
theorem add_c {oB : St} {n : Nat} (hw : wB oB n) (x y t : Int32) : f_X0_add oB x y t = some (if onB oB x.toInt y.toInt = true ∧ tkS oB n x y = false ∧ n < 14 then (1, addB oB n x y t) else (0, oB)) := by
  have hn := hw.1
  have h2 := hw.2.1
  unfold f_X0_add
  rw [holds_c (bAny x) (bAny y), bn1_s, ite10, taken_c hn h2, bn1_s, ite10]
  by_cases c1 : onB oB x.toInt y.toInt = true
  · rw [if_pos c1]
    by_cases c2 : tkS oB n x y = true
    · rw [if_pos c2, if_neg (fun z => by rw [c2] at z; exact absurd z.2.1 (by decide))]
    · rw [if_neg c2]
      rw [Bool.not_eq_true] at c2
      by_cases c3 : n < 14
      · rw [h2, if_pos (show nI n < (14 : Int32) from nI_lt (b := 14) c3 (by decide)), if_pos ⟨c1, c2, c3⟩]
        rw [aw_n (show n < 14 by omega) (by decide), bn1_s, show (sR oB 8 (upd (oB.2.2 8) n x)).1 2 = nI n from h2, aw_n (show n < 14 by omega) (by decide), bn1_s, show ∀ f, (sR (sR oB 8 (upd (oB.2.2 8) n x)) 9 f).1 2 = nI n from fun _ => h2, aw_n (show n < 14 by omega) (by decide), bn1_s, show ∀ f g, (sR (sR (sR oB 8 (upd (oB.2.2 8) n x)) 9 f) 10 g).1 2 = nI n from fun _ _ => h2, nI_1]
        rfl
      · rw [h2, if_neg (show ¬ nI n < (14 : Int32) from nI_nlt (b := 14) (by omega) (by omega)), if_neg (fun z => c3 z.2.2)]
  · rw [if_neg c1, if_neg (fun z => c1 z.1)]
theorem cif_m {oM oB : St} {n : Nat} (hw : wB oB n) (hm : mB oM oB n) (x y t : Int32) : f_X7_comesIfFree oM x y t = some (if onB oB x.toInt y.toInt = true ∧ tkS oB n x y = false ∧ n < 14 then (1, addM oM n x y t) else (0, oM)) := by
  have hn := hw.1
  unfold f_X7_comesIfFree
  rw [ison_m hw hm.1 hm.2.1 (bAny x) (bAny y), bn1_s, ite10, taken_m hn hm, bn1_s, ite10]
  by_cases c1 : onB oB x.toInt y.toInt = true
  · rw [if_pos c1]
    by_cases c2 : tkS oB n x y = true
    · rw [if_pos c2, if_neg (fun z => by rw [c2] at z; exact absurd z.2.1 (by decide))]
    · rw [if_neg c2]
      rw [Bool.not_eq_true] at c2
      by_cases c3 : n < 14
      · rw [hm.2.2.1, if_neg (show ¬ (14 : Int32) ≤ nI n from nI_ge (b := 14) c3 (by decide)), if_pos ⟨c1, c2, c3⟩, comes_m c3 hm.2.2.1, bn1_s]
      · rw [hm.2.2.1, if_pos (show (14 : Int32) ≤ nI n from nI_le (a := 14) (by omega) (by omega)), if_neg (fun z => c3 z.2.2)]
  · rw [if_neg c1, if_neg (fun z => c1 z.1)]
theorem forget_c (oR oT : St) : f_X6_forget oR oT = some (sI (sI oR 3 0) 4 0, sI oT 3 0) := rfl
theorem REL_add {oX oP oR oT oB oM : St} {n : Nat} (hw : wB oB n) (hm : mB oM oB n) (hp : pgR oP oM) (c6 : oX.1 6 = oM.1 4) (c7 : oX.1 7 = oM.1 16) (c8 : oX.1 8 = oM.1 17) (hn : n < 14) {x y t : Int32} (ho : onB oB x.toInt y.toInt = true) (ht : -1 ≤ t.toInt ∧ t.toInt ≤ 7) : REL oX oP (sI (sI oR 3 0) 4 0) (sI oT 3 0) (addB oB n x y t) (addM oM n x y t) :=
  ⟨n + 1, wB_add hw hn ho ht, mB_add hm x y t, Or.inl rfl, hp, Or.inl ⟨rfl, rfl, rfl⟩, c6, c7, c8⟩
/-- one dot comes, or not: in both -/
theorem come1 {oX oP oR oT oB oM : St} (h : REL oX oP oR oT oB oM) (x y t : Int32) (ht : -1 ≤ t.toInt ∧ t.toInt ≤ 7) : ∃ (b : Bool) (oR' oT' oB' oM' : St), f_X6_comes oR oT oB x y t = some (if b then 1 else 0, oR', oT', oB') ∧ f_X7_comesIfFree oM x y t = some (if b then 1 else 0, oM') ∧ REL oX oP oR' oT' oB' oM' ∧ oB'.1 0 = oB.1 0 ∧ oB'.1 1 = oB.1 1 ∧ oM'.2.1 = oM.2.1 ∧ (b = true → oB'.1 2 = oM'.1 5) := by
  have h0 := h
  obtain ⟨n, hw, hm, hT, hp, hR, c6, c7, c8⟩ := h
  unfold f_X6_comes
  rw [add_c hw, cif_m hw hm]
  by_cases c : onB oB x.toInt y.toInt = true ∧ tkS oB n x y = false ∧ n < 14
  · rw [if_pos c, if_pos c, bn2_s, if_neg (by decide), forget_c, bn2_s, if_pos (Or.inr rfl)]
    exact ⟨true, _, _, _, _, rfl, rfl, REL_add hw hm hp c6 c7 c8 c.2.2 c.1 ht, rfl, rfl, rfl, fun _ => rfl⟩
  · rw [if_neg c, if_neg c, bn2_s, if_pos rfl, if_pos (Or.inl rfl)]
    exact ⟨false, _, _, _, _, rfl, rfl, h0, rfl, rfl, rfl, fun z => by cases z⟩
set_option maxHeartbeats 4000000 in
theorem op_dot {oX oP oR oT oB oM : St} (h : REL oX oP oR oT oB oM) (x y t : Int32) : ∃ r oR' oT' oB' oM', f_X6_dot oR oT oB x y t = some (r, oR', oT', oB') ∧ f_X7_dot oM x y t = some (r, oM') ∧ REL oX oP oR' oT' oB' oM' := by
  have h0 := h
  obtain ⟨n, hw, hm, hT, hp, hR, c6, c7, c8⟩ := h
  have hn := hw.1
  unfold f_X6_dot f_X7_dot
  rw [isThere_c, bn1_s, ite01, isSheet_m hm, bn1_s, ite01, holds_c (bAny x) (bAny y), bn1_s, ite10, ison_m hw hm.1 hm.2.1 (bAny x) (bAny y), bn1_s, ite10, within_m, bn1_s, ite10, taken_c hn hw.2.1, bn1_s, ite10, taken_m hn hm, bn1_s, ite10]
  by_cases hW : (oB.1 0).toInt ≤ 0
  · rw [if_pos hW, if_pos hW]; exact ⟨_, _, _, _, _, rfl, rfl, h0⟩
  · rw [if_neg hW, if_neg hW]
    by_cases c1 : onB oB x.toInt y.toInt = true
    · rw [if_pos c1, if_pos c1]
      have e1 : t < -1 ↔ t.toInt < -1 := by rw [Int32.lt_iff_toInt_lt]; rfl
      have e2 : t < 8 ↔ t.toInt < 8 := by rw [Int32.lt_iff_toInt_lt]; rfl
      by_cases ht : -1 ≤ t.toInt ∧ t.toInt ≤ 7
      · rw [if_neg (by rw [e1]; omega), if_pos (by rw [e2]; omega), if_pos (show Int32.toInt (-1) ≤ t.toInt ∧ t.toInt ≤ Int32.toInt 7 from ht)]
        by_cases c2 : tkS oB n x y = true
        · rw [if_pos c2, if_pos c2]; exact ⟨_, _, _, _, _, rfl, rfl, h0⟩
        · rw [if_neg c2, if_neg c2]
          rw [Bool.not_eq_true] at c2
          unfold f_X6_comes
          rw [add_c hw]
          by_cases c3 : n < 14
          · rw [if_pos ⟨c1, c2, c3⟩, bn2_s, if_neg (by decide), forget_c, bn2_s, if_pos (Or.inr rfl), bn4_s, if_neg (by decide), hm.2.2.1, if_neg (show ¬ nI n = 14 from fun z => by have := (nI_eq (b := 14) (by omega) (by omega)).mp z; omega), comes_m c3 hm.2.2.1, bn1_s]
            exact ⟨_, _, _, _, _, rfl, rfl, REL_add hw hm hp c6 c7 c8 c3 c1 ht⟩
          · rw [if_neg (fun z => c3 z.2.2), bn2_s, if_pos rfl, if_pos (Or.inl rfl), bn4_s, if_pos rfl, hm.2.2.1, if_pos (show nI n = 14 by rw [show n = 14 by omega]; rfl)]
            exact ⟨_, _, _, _, _, rfl, rfl, h0⟩
      · refine ⟨-102, oR, oT, oB, oM, ?_, ?_, h0⟩
        · by_cases h5 : t < -1
          · rw [if_pos h5]
          · rw [if_neg h5, if_neg (by rw [e2]; rw [e1] at h5; omega)]
        · rw [if_neg (show ¬ (Int32.toInt (-1) ≤ t.toInt ∧ t.toInt ≤ Int32.toInt 7) from ht)]
    · rw [if_neg c1, if_neg c1]; exact ⟨_, _, _, _, _, rfl, rfl, h0⟩
/-! a dot goes -/
def o3 (a b c : Nat) (S S' : St) (n d : Nat) : Prop := ∀ i, i < n → (S'.2.2 a i = if i < d then S.2.2 a i else S.2.2 a (i + 1)) ∧ (S'.2.2 b i = if i < d then S.2.2 b i else S.2.2 b (i + 1)) ∧ (S'.2.2 c i = if i < d then S.2.2 c i else S.2.2 c (i + 1))
theorem rem_c {oB : St} {n d : Nat} (hn : n < 14) (h2 : oB.1 2 = nI (n + 1)) (hd : d ≤ n) : ∃ oB', f_X0_remove oB (nI d) = some oB' ∧ oB'.1 2 = nI n ∧ (∀ k, k ≠ 2 → oB'.1 k = oB.1 k) ∧ o3 8 9 10 oB oB' n d := by
  unfold f_X0_remove
  rw [has_c (n := n + 1) (by omega) h2, bn1_s, isJ_nI (show d < n + 1 by omega) (by omega), if_neg (by decide)]
  obtain ⟨s, h1, h2'⟩ := lpn (fun fuel k (s : St) => f_X0_remove_L11 (fun (oB17 : St) => some ((sI oB17 2 ((oB17.1 2) - 1)))) fuel (nI k) s) (fun s => some ((sI s 2 ((s.1 2) - 1)))) n (fun k s => d ≤ k ∧ s.1 = oB.1 ∧ o3 8 9 10 oB s k d ∧ ∀ i, k ≤ i → s.2.2 8 i = oB.2.2 8 i ∧ s.2.2 9 i = oB.2.2 9 i ∧ s.2.2 10 i = oB.2.2 10 i) (by
    intro fuel k s hk hs
    obtain ⟨a0, a1, a2, a3⟩ := hs
    refine ⟨sR (sR (sR s 8 (upd (s.2.2 8) k (s.2.2 8 (k + 1)))) 9 (upd (s.2.2 9) k (s.2.2 9 (k + 1)))) 10 (upd (s.2.2 10) k (s.2.2 10 (k + 1))), ?_, by omega, a1, fun i hi => ?_, fun i hi => ?_⟩
    · show f_X0_remove_L11 (fun (oB17 : St) => some ((sI oB17 2 ((oB17.1 2) - 1)))) (fuel + 1) (nI k) s = f_X0_remove_L11 (fun (oB17 : St) => some ((sI oB17 2 ((oB17.1 2) - 1)))) fuel (nI (k + 1)) (sR (sR (sR s 8 (upd (s.2.2 8) k (s.2.2 8 (k + 1)))) 9 (upd (s.2.2 9) k (s.2.2 9 (k + 1)))) 10 (upd (s.2.2 10) k (s.2.2 10 (k + 1))))
      rw [f_X0_remove_L11_s, a1, h2, nI_1, if_neg (nI_ge (show k + 1 < n + 1 by omega) (by omega)), ag_n (show k + 1 < 14 by omega) (by decide), bn1_s, aw_n (show k < 14 by omega) (by decide), bn1_s, ag_n (show k + 1 < 14 by omega) (by decide), bn1_s, aw_n (show k < 14 by omega) (by decide), bn1_s, ag_n (show k + 1 < 14 by omega) (by decide), bn1_s, aw_n (show k < 14 by omega) (by decide), bn1_s]
      rfl
    · show upd (s.2.2 8) k (s.2.2 8 (k + 1)) i = _ ∧ upd (s.2.2 9) k (s.2.2 9 (k + 1)) i = _ ∧ upd (s.2.2 10) k (s.2.2 10 (k + 1)) i = _
      rw [upd_e, upd_e, upd_e]
      by_cases e : i = k
      · obtain ⟨c1, c2, c3⟩ := a3 (k + 1) (by omega)
        rw [if_pos e, if_pos e, if_pos e, e, if_neg (by omega), if_neg (by omega), if_neg (by omega)]
        exact ⟨c1, c2, c3⟩
      · rw [if_neg e, if_neg e, if_neg e]; exact a2 i (by omega)
    · show upd (s.2.2 8) k (s.2.2 8 (k + 1)) i = _ ∧ upd (s.2.2 9) k (s.2.2 9 (k + 1)) i = _ ∧ upd (s.2.2 10) k (s.2.2 10 (k + 1)) i = _
      rw [upd_e, upd_e, upd_e, if_neg (by omega), if_neg (by omega), if_neg (by omega)]
      exact a3 i (by omega)) (by
    intro fuel s hs
    show f_X0_remove_L11 (fun (oB17 : St) => some ((sI oB17 2 ((oB17.1 2) - 1)))) (fuel + 1) (nI n) s = _
    rw [f_X0_remove_L11_s, hs.2.1, h2, nI_1, if_pos (nI_le (Nat.le_refl _) (by omega))]) fu d oB (by omega) (by unfold fu; omega) ⟨Nat.le_refl _, rfl, fun i hi => by rw [if_pos hi, if_pos hi, if_pos hi]; exact ⟨rfl, rfl, rfl⟩, fun _ _ => ⟨rfl, rfl, rfl⟩⟩
  obtain ⟨a0, a1, a2, a3⟩ := h2'
  refine ⟨_, h1, ?_, fun k hk => ?_, a2⟩
  · show s.1 2 - 1 = _
    rw [a1, h2, nI_s1]
  · rw [sI_1, if_neg hk, a1]
theorem lift_m {oM : St} {n d : Nat} (hn : n < 14) (h5 : oM.1 5 = nI n) (hd : d ≤ n) : ∃ oM', f_X7_lift_L23 fu (nI d) oM = some (nI n, oM') ∧ (∀ k, k ≠ 10 → oM'.1 k = oM.1 k) ∧ oM'.1 10 = 0 ∧ (∀ k, k < 6 ∨ 8 < k → oM'.2.2 k = oM.2.2 k) ∧ o3 6 7 8 oM oM' n d := by
  obtain ⟨s, h1, h2'⟩ := lpn (fun fuel k (s : St) => f_X7_lift_L23 fuel (nI k) s) (fun s => some (s.1 5, (sI s 10 0))) n (fun k s => d ≤ k ∧ s.1 = oM.1 ∧ (∀ k, k < 6 ∨ 8 < k → s.2.2 k = oM.2.2 k) ∧ o3 6 7 8 oM s k d ∧ ∀ i, k ≤ i → s.2.2 6 i = oM.2.2 6 i ∧ s.2.2 7 i = oM.2.2 7 i ∧ s.2.2 8 i = oM.2.2 8 i) (by
    intro fuel k s hk hs
    obtain ⟨a0, a1, a9, a2, a3⟩ := hs
    refine ⟨sR (sR (sR s 6 (upd (s.2.2 6) k (s.2.2 6 (k + 1)))) 7 (upd (s.2.2 7) k (s.2.2 7 (k + 1)))) 8 (upd (s.2.2 8) k (s.2.2 8 (k + 1))), ?_, by omega, a1, fun j hj => by rw [sR_3, sR_3, sR_3, if_neg (by omega), if_neg (by omega), if_neg (by omega)]; exact a9 j hj, fun i hi => ?_, fun i hi => ?_⟩
    · show f_X7_lift_L23 (fuel + 1) (nI k) s = f_X7_lift_L23 fuel (nI (k + 1)) (sR (sR (sR s 6 (upd (s.2.2 6) k (s.2.2 6 (k + 1)))) 7 (upd (s.2.2 7) k (s.2.2 7 (k + 1)))) 8 (upd (s.2.2 8) k (s.2.2 8 (k + 1))))
      rw [f_X7_lift_L23_s, a1, h5, if_neg (nI_ge hk (by omega)), nI_1, ag_n (show k + 1 < 14 by omega) (by decide), bn1_s, aw_n (show k < 14 by omega) (by decide), bn1_s, ag_n (show k + 1 < 14 by omega) (by decide), bn1_s, aw_n (show k < 14 by omega) (by decide), bn1_s, ag_n (show k + 1 < 14 by omega) (by decide), bn1_s, aw_n (show k < 14 by omega) (by decide), bn1_s]
      rfl
    · show upd (s.2.2 6) k (s.2.2 6 (k + 1)) i = _ ∧ upd (s.2.2 7) k (s.2.2 7 (k + 1)) i = _ ∧ upd (s.2.2 8) k (s.2.2 8 (k + 1)) i = _
      rw [upd_e, upd_e, upd_e]
      by_cases e : i = k
      · obtain ⟨c1, c2, c3⟩ := a3 (k + 1) (by omega)
        rw [if_pos e, if_pos e, if_pos e, e, if_neg (by omega), if_neg (by omega), if_neg (by omega)]
        exact ⟨c1, c2, c3⟩
      · rw [if_neg e, if_neg e, if_neg e]; exact a2 i (by omega)
    · show upd (s.2.2 6) k (s.2.2 6 (k + 1)) i = _ ∧ upd (s.2.2 7) k (s.2.2 7 (k + 1)) i = _ ∧ upd (s.2.2 8) k (s.2.2 8 (k + 1)) i = _
      rw [upd_e, upd_e, upd_e, if_neg (by omega), if_neg (by omega), if_neg (by omega)]
      exact a3 i (by omega)) (by
    intro fuel s hs
    show f_X7_lift_L23 (fuel + 1) (nI n) s = _
    rw [f_X7_lift_L23_s, hs.2.1, h5, if_pos (nI_le (Nat.le_refl _) (by omega))]) fu d oM (by omega) (by unfold fu; omega) ⟨Nat.le_refl _, rfl, fun _ _ => rfl, fun i hi => by rw [if_pos hi, if_pos hi, if_pos hi]; exact ⟨rfl, rfl, rfl⟩, fun _ _ => ⟨rfl, rfl, rfl⟩⟩
  obtain ⟨a0, a1, a9, a2, a3⟩ := h2'
  have h1 : f_X7_lift_L23 fu (nI d) oM = some (s.1 5, sI s 10 0) := h1
  rw [a1, h5] at h1
  exact ⟨_, h1, fun k hk => by rw [sI_1, if_neg hk, a1], rfl, a9, a2⟩
set_option maxHeartbeats 4000000 in
theorem op_lift {oX oP oR oT oB oM : St} (h : REL oX oP oR oT oB oM) (v1 : Int32) : ∃ r oR' oT' oB' oM', f_X6_lift oR oT oB v1 = some (r, oR', oT', oB') ∧ f_X7_lift oM v1 = some (r, oM') ∧ REL oX oP oR' oT' oB' oM' := by
  have h0 := h
  obtain ⟨n, hw, hm, hT, hp, hR, c6, c7, c8⟩ := h
  have hn := hw.1
  unfold f_X6_lift f_X7_lift
  rw [has_c hn hw.2.1, bn1_s, ite10, isDot_m hw hm, bn1_s, ite10]
  by_cases c : isJ n v1 = true
  · rw [if_pos c, if_pos c]
    obtain ⟨d, hd, rfl⟩ := isJ_t c
    obtain ⟨n, rfl⟩ : ∃ m, n = m + 1 := ⟨n - 1, by omega⟩
    obtain ⟨oB', g1, g2, g3, g4⟩ := rem_c (show n < 14 by omega) hw.2.1 (show d ≤ n by omega)
    have h5 : (sI oM 5 (oM.1 5 - 1)).1 5 = nI n := by
      show oM.1 5 - 1 = _
      rw [hm.2.2.1, nI_s1]
    obtain ⟨oM', k1, k2, k3, k4, k5⟩ := lift_m (oM := sI oM 5 (oM.1 5 - 1)) (show n < 14 by omega) h5 (show d ≤ n by omega)
    rw [g1, bn1_s, forget_c, bn2_s, k1, g2]
    have kI : ∀ k, k ≠ 10 → k ≠ 5 → oM'.1 k = oM.1 k := fun k h1 h2 => by rw [k2 k h1, sI_1, if_neg h2]
    refine ⟨_, _, _, _, _, rfl, rfl, n, ?_, ?_, Or.inl rfl, ?_, Or.inl ⟨rfl, k3, rfl⟩, ?_, ?_, ?_⟩
    · obtain ⟨w1, w2, w3, w4, w5, w6, w7, w8, w9, w10, w11, w12⟩ := hw
      unfold wB
      rw [g3 0 (by omega), g3 1 (by omega), g3 3 (by omega), g3 4 (by omega), g3 5 (by omega), g3 6 (by omega), g3 7 (by omega)]
      refine ⟨by omega, g2, w3, w4, w5, w6, w7, w8, w9, fun j hj => ?_, fun z => by have := w11 z; omega, w12⟩
      obtain ⟨x1, x2, x3⟩ := g4 j hj
      rw [x1, x2, x3]
      by_cases e : j < d
      · rw [if_pos e, if_pos e, if_pos e]; exact w10 j (by omega)
      · rw [if_neg e, if_neg e, if_neg e]; exact w10 (j + 1) (by omega)
    · obtain ⟨m1, m2, m3, m4, m5⟩ := hm
      unfold mB
      rw [kI 2 (by omega) (by omega), kI 3 (by omega) (by omega), k2 5 (by omega), h5, k4 9 (by omega), g3 0 (by omega), g3 1 (by omega), g3 3 (by omega), g3 4 (by omega), g3 5 (by omega), g3 6 (by omega), g3 7 (by omega)]
      refine ⟨m1, m2, rfl, fun j hj => ?_, m5⟩
      obtain ⟨x1, x2, x3⟩ := g4 j hj
      obtain ⟨y1, y2, y3⟩ := k5 j hj
      rw [x1, x2, x3, y1, y2, y3]
      by_cases e : j < d
      · rw [if_pos e, if_pos e, if_pos e, if_pos e, if_pos e, if_pos e]; exact m4 j (by omega)
      · rw [if_neg e, if_neg e, if_neg e, if_neg e, if_neg e, if_neg e]; exact m4 (j + 1) (by omega)
    · obtain ⟨p, p1, p2, p3, p4⟩ := hp
      refine ⟨p, p1, p2, ?_, ?_⟩
      · rw [kI 0 (by omega) (by omega)]; exact p3
      · rw [k4 1 (by omega)]; exact p4
    · rw [kI 4 (by omega) (by omega)]; exact c6
    · rw [kI 16 (by omega) (by omega)]; exact c7
    · rw [kI 17 (by omega) (by omega)]; exact c8
  · rw [if_neg c, if_neg c]
    exact ⟨_, _, _, _, _, rfl, rfl, h0⟩
