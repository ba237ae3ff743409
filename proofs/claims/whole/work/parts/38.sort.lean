/-! how often a number stands in a row -/
def ctI (f : Nat → Int32) (n : Nat) (v : Int32) : Nat := fb_ct (fun j => decide (f j = v)) n
theorem ctI_upd (f : Nat → Int32) {i m : Nat} (x v : Int32) (h : i < m) : ctI (upd f i x) m v + (if f i = v then 1 else 0) = ctI f m v + (if x = v then 1 else 0) := by
  have e := fb_ct_upd (fun j => decide (f j = v)) (decide (x = v)) h
  have e2 : (fun k => if k = i then decide (x = v) else decide (f k = v)) = fun j => decide (upd f i x j = v) := by
    funext k
    rw [upd_e]
    split <;> rfl
  rw [e2] at e
  simp only [decide_eq_true_eq] at e
  exact e
theorem ctI_move (f : Nat → Int32) {a b m : Nat} (x v : Int32) (ha : a < m) (hb : b < m) (hab : b ≠ a) : ctI (upd (upd f a (f b)) b x) m v = ctI (upd f a x) m v := by
  have h1 := ctI_upd f x v ha
  have h2 := ctI_upd f (f b) v ha
  have h3 := ctI_upd (upd f a (f b)) x v hb
  rw [upd_e, if_neg hab] at h3
  omega
theorem ctI_succ (f : Nat → Int32) (n : Nat) (v : Int32) : ctI f (n + 1) v = ctI f n v + if f n = v then 1 else 0 := by
  unfold ctI
  rw [fb_ct_succ]
  simp only [decide_eq_true_eq]
theorem ctI_cong {f g : Nat → Int32} {n : Nat} (v : Int32) (h : ∀ j, j < n → f j = g j) : ctI f n v = ctI g n v := fb_ct_cong (fun k hk => by rw [h k hk])
theorem ctI_pos {f : Nat → Int32} {n : Nat} {v : Int32} : 0 < ctI f n v ↔ ∃ j, j < n ∧ f j = v := by
  unfold ctI
  rw [fb_ct_pos]
  simp only [decide_eq_true_eq]
theorem upd_same {f : Nat → Int32} {i : Nat} : upd f i (f i) = f := fa_upd_same rfl
/-! sorting by steps that grow less -/
def hole (f : Nat → Int32) (t i : Nat) (x : Int32) : Prop := (∀ a b, a < b → b ≤ i → a ≠ t → b ≠ t → f a ≤ f b) ∧ ∀ b, t < b → b ≤ i → x < f b
theorem le_tr {a b c : Int32} (h : a ≤ b) (h2 : b ≤ c) : a ≤ c := by
  rw [Int32.le_iff_toInt_le] at h h2 ⊢
  omega
theorem lt_le {a b : Int32} (h : a < b) : a ≤ b := by
  rw [Int32.le_iff_toInt_le]
  rw [Int32.lt_iff_toInt_lt] at h
  omega
theorem le_rf (a : Int32) : a ≤ a := by rw [Int32.le_iff_toInt_le]; exact Int.le_refl _
theorem nle_lt {a b : Int32} (h : ¬ a ≤ b) : b < a := by
  rw [Int32.le_iff_toInt_le] at h
  rw [Int32.lt_iff_toInt_lt]
  omega
set_option maxHeartbeats 4000000 in
theorem sort_in {st i : Nat} {v1 v3 x : Int32} (hst : 1 ≤ st) (hs2 : st < 400) (hi : i < 364) (K : Int32 → (Nat → Int32) → Option (Nat → Int32)) :
    ∀ (fuel t : Nat) (f : Nat → Int32), t < fuel → t ≤ i → (st = 1 → hole f t i x) → ∃ t' f', f_X5_sortUp_L22 v1 (nI st) v3 x K fuel (nI t) f = K (nI t') f' ∧ t' ≤ t ∧ (∀ j, i < j → f' j = f j) ∧ (∀ m v, t < m → ctI (upd f' t' x) m v = ctI (upd f t x) m v) ∧ (st = 1 → ∀ a b, a < b → b ≤ i → upd f' t' x a ≤ upd f' t' x b)
  | 0, t, f, h, _, _ => by omega
  | fuel + 1, t, f, hf, ht, hh => by
    rw [f_X5_sortUp_L22_s]
    by_cases h1 : t < st
    · rw [if_pos (nI_lt h1 (by omega))]
      refine ⟨t, f, rfl, Nat.le_refl _, fun _ _ => rfl, fun _ _ _ => rfl, ?_⟩
      intro h0 a b hab hb
      subst h0
      have et : t = 0 := by omega
      subst et
      obtain ⟨p1, p2⟩ := hh rfl
      rw [upd_e, upd_e, if_neg (show ¬ b = 0 by omega)]
      by_cases ha : a = 0
      · rw [if_pos ha]; exact lt_le (p2 b (by omega) hb)
      · rw [if_neg ha]; exact p1 a b hab hb ha (by omega)
    · rw [if_neg (nI_nlt (by omega) (by omega)), nI_sub (by omega), ag_n (show t - st < 364 by omega) (by decide), bn1_s]
      by_cases h2 : f (t - st) ≤ x
      · rw [if_pos h2]
        refine ⟨t, f, rfl, Nat.le_refl _, fun _ _ => rfl, fun _ _ _ => rfl, ?_⟩
        intro h0 a b hab hb
        subst h0
        obtain ⟨p1, p2⟩ := hh rfl
        rw [upd_e, upd_e]
        by_cases ha : a = t
        · rw [if_pos ha, if_neg (by omega)]; exact lt_le (p2 b (by omega) hb)
        · rw [if_neg ha]
          by_cases hb2 : b = t
          · rw [if_pos hb2]
            by_cases ha2 : a = t - 1
            · rw [ha2]; exact h2
            · exact le_tr (p1 a (t - 1) (by omega) (by omega) (by omega) (by omega)) h2
          · rw [if_neg hb2]; exact p1 a b hab hb ha hb2
      · rw [if_neg h2, bn1_s, au_n (show t < 364 by omega) (by decide), bn1_s]
        have hne : t - st ≠ t := by omega
        obtain ⟨t', f', g1, g2, g3, g4, g5⟩ := sort_in (v1 := v1) (v3 := v3) hst hs2 hi K fuel (t - st) (upd f t (f (t - st))) (by omega) (by omega) (by
          intro h0
          subst h0
          obtain ⟨p1, p2⟩ := hh rfl
          constructor
          · intro a b hab hb ha hb2
            rw [upd_e, upd_e]
            by_cases hat : a = t
            · rw [if_pos hat, if_neg (by omega)]; exact p1 (t - 1) b (by omega) hb (by omega) (by omega)
            · rw [if_neg hat]
              by_cases hbt : b = t
              · rw [if_pos hbt]; exact p1 a (t - 1) (by omega) (by omega) hat (by omega)
              · rw [if_neg hbt]; exact p1 a b hab hb hat hbt
          · intro b hb hb2
            rw [upd_e]
            by_cases hbt : b = t
            · rw [if_pos hbt]; exact nle_lt h2
            · rw [if_neg hbt]; exact p2 b (by omega) hb2)
        refine ⟨t', f', g1, by omega, fun j hj => by rw [g3 j hj, upd_e, if_neg (by omega)], fun m v hm => ?_, g5⟩
        rw [g4 m v (by omega), ctI_move f x v hm (by omega) hne]
set_option maxHeartbeats 4000000 in
theorem sort_pass {st len : Nat} (hst : 1 ≤ st) (hs2 : st < 400) (hl : len ≤ 364) (K : (Nat → Int32) → Option (Nat → Int32)) :
    ∀ (fuel i : Nat) (f : Nat → Int32), len - i < fuel → st ≤ i → i < 400 → (st = 1 → ∀ a b, a < b → b < i → f a ≤ f b) → ∃ f', f_X5_sortUp_L9 (nI len) (nI st) K fuel (nI i) f = K f' ∧ (∀ v, ctI f' len v = ctI f len v) ∧ (st = 1 → ∀ a b, a < b → b < len → f' a ≤ f' b)
  | 0, i, f, h, _, _, _ => by omega
  | fuel + 1, i, f, hf, hi, hi2, hh => by
    rw [f_X5_sortUp_L9_s]
    by_cases h1 : len ≤ i
    · rw [if_pos (nI_le h1 (by omega))]
      exact ⟨f, rfl, fun _ => rfl, fun h0 a b hab hb => hh h0 a b hab (by omega)⟩
    · rw [if_neg (nI_ge (by omega) (by omega)), ag_n (show i < 364 by omega) (by decide), bn1_s]
      obtain ⟨t', f', g1, g2, g3, g4, g5⟩ := sort_in (v1 := nI len) (v3 := nI i) (x := f i) hst hs2 (show i < 364 by omega) (fun v13 f14 => bn1 (au 364 f14 v13 (f i)) fun f16 => f_X5_sortUp_L9 (nI len) (nI st) K fuel (nI i + 1) f16) fu i f (by unfold fu; omega) (Nat.le_refl _) (by
        intro h0
        exact ⟨fun a b hab hb ha hb2 => hh h0 a b hab (by omega), fun b hb hb2 => by omega⟩)
      rw [g1, au_n (show t' < 364 by omega) (by decide), bn1_s, nI_1]
      obtain ⟨f'', k1, k2, k3⟩ := sort_pass hst hs2 hl K fuel (i + 1) (upd f' t' (f i)) (by omega) (by omega) (by omega) (fun h0 a b hab hb => g5 h0 a b hab (by omega))
      refine ⟨f'', k1, fun v => ?_, k3⟩
      rw [k2 v, g4 len v (by omega), upd_same]
theorem sort_c {len : Nat} (hl : len ≤ 364) (f : Nat → Int32) : ∃ g, f_X5_sortUp f (nI len) = some g ∧ (∀ v, ctI g len v = ctI f len v) ∧ ∀ a b, a < b → b < len → g a ≤ g b := by
  unfold f_X5_sortUp
  have fs : ∀ k, k ≤ 4999 → fu - k = (fu - (k + 1)) + 1 := fun k hk => by unfold fu; omega
  have pass : ∀ (st : Nat) (K : (Nat → Int32) → Option (Nat → Int32)) (f : Nat → Int32), 1 ≤ st → st < 400 → ∃ f', f_X5_sortUp_L9 (nI len) (nI st) K fu (nI st) f = K f' ∧ (∀ v, ctI f' len v = ctI f len v) ∧ (st = 1 → ∀ a b, a < b → b < len → f' a ≤ f' b) := fun st K f h1 h2 =>
    sort_pass h1 h2 hl K fu st f (by unfold fu; omega) (Nat.le_refl _) h2 (fun h0 a b hab hb => by omega)
  have one : ∀ (fuel : Nat) (st st2 : Nat) (f : Nat → Int32), 1 ≤ st → st < 400 → nI st / 3 = nI st2 → ∃ f', f_X5_sortUp_L3 (nI len) (fuel + 1) (nI st) f = f_X5_sortUp_L3 (nI len) fuel (nI st2) f' ∧ (∀ v, ctI f' len v = ctI f len v) ∧ (st = 1 → ∀ a b, a < b → b < len → f' a ≤ f' b) := by
    intro fuel st st2 f h1 h2 h3
    rw [f_X5_sortUp_L3_s, if_neg (nI_nle h1 (by omega)), h3]
    exact pass st _ f h1 h2
  have ef : fu = 4994 + 1 + 1 + 1 + 1 + 1 + 1 := rfl
  rw [ef, show (121 : Int32) = nI 121 from rfl]
  obtain ⟨f1, a1, c1, -⟩ := one (4994 + 1 + 1 + 1 + 1 + 1) 121 40 f (by omega) (by omega) (by decide)
  obtain ⟨f2, a2, c2, -⟩ := one (4994 + 1 + 1 + 1 + 1) 40 13 f1 (by omega) (by omega) (by decide)
  obtain ⟨f3, a3, c3, -⟩ := one (4994 + 1 + 1 + 1) 13 4 f2 (by omega) (by omega) (by decide)
  obtain ⟨f4, a4, c4, -⟩ := one (4994 + 1 + 1) 4 1 f3 (by omega) (by omega) (by decide)
  obtain ⟨f5, a5, c5, s5⟩ := one (4994 + 1) 1 0 f4 (by omega) (by omega) (by decide)
  refine ⟨f5, ?_, fun v => by rw [c5, c4, c3, c2, c1], s5 rfl⟩
  rw [a1, a2, a3, a4, a5, f_X5_sortUp_L3_s, if_pos (by decide)]
