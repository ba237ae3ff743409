/-! spots as numbers: how many votes fewer than all, then the key -/
def enc (c k : Nat) : Nat := (364 - c) * 32768 + k
def tabOK (b : List Nat) (Z : Nat) (E : Nat → Nat) : Prop := (∀ i, i < Z → ∃ k, k ∈ b ∧ E i = enc (b.count k) k) ∧ (∀ k, k ∈ b → ∃ i, i < Z ∧ E i = enc (b.count k) k) ∧ ∀ i j, i < j → j < Z → E i < E j
theorem tab_le {b : List Nat} {Z Z2 : Nat} {E E2 : Nat → Nat} (h : tabOK b Z E) (h2 : tabOK b Z2 E2) : ∀ i, i < Z → i < Z2 ∧ E i = E2 i := by
  intro i
  induction i using Nat.strongRecOn with
  | ind i ih =>
    intro hi
    obtain ⟨k, hk, ek⟩ := h.1 i hi
    obtain ⟨p, hp, ep⟩ := h2.2.1 k hk
    have e1 : E i = E2 p := ek.trans ep.symm
    have hip : i ≤ p := by
      rcases Nat.lt_or_ge p i with q | q
      · obtain ⟨-, e3⟩ := ih p q (by omega)
        have := h.2.2 p i q hi
        omega
      · exact q
    have hi2 : i < Z2 := by omega
    obtain ⟨k2, hk2, ek2⟩ := h2.1 i hi2
    obtain ⟨q, hq, eq2⟩ := h.2.1 k2 hk2
    have e2 : E2 i = E q := ek2.trans eq2.symm
    have hiq : i ≤ q := by
      rcases Nat.lt_or_ge q i with z | z
      · obtain ⟨-, e3⟩ := ih q z (by omega)
        have := h2.2.2 q i z hi2
        omega
      · exact z
    refine ⟨hi2, ?_⟩
    have a1 : E i ≤ E q := by
      rcases Nat.lt_or_ge i q with z | z
      · exact Nat.le_of_lt (h.2.2 i q z hq)
      · have : i = q := by omega
        rw [this]; exact Nat.le_refl _
    have a2 : E2 i ≤ E2 p := by
      rcases Nat.lt_or_ge i p with z | z
      · exact Nat.le_of_lt (h2.2.2 i p z hp)
      · have : i = p := by omega
        rw [this]; exact Nat.le_refl _
    omega
theorem tab_one {b : List Nat} {Z Z2 : Nat} {E E2 : Nat → Nat} (h : tabOK b Z E) (h2 : tabOK b Z2 E2) : Z = Z2 ∧ ∀ i, i < Z → E i = E2 i := by
  have a := tab_le h h2
  have c := tab_le h2 h
  refine ⟨?_, fun i hi => (a i hi).2⟩
  rcases Nat.lt_trichotomy Z Z2 with q | q | q
  · have := (c Z q).1; omega
  · exact q
  · have := (a Z2 q).1; omega
theorem ct_iv (from' at' : Nat) (h : from' ≤ at') : ∀ m, fb_ct (fun j => decide (from' ≤ j ∧ j ≤ at')) m = min m (at' + 1) - from'
  | 0 => by show 0 = _; omega
  | m + 1 => by
    rw [fb_ct_succ, ct_iv from' at' h m]
    by_cases hm : from' ≤ m ∧ m ≤ at'
    · rw [if_pos (by simpa using hm)]; omega
    · rw [if_neg (by simpa using hm)]; omega
theorem shl_15 : ∀ a, a < 365 → nI a <<< ((15 : Int32) &&& 31) = nI (2 ^ 15 * a) := by decide +kernel
theorem enc_w {c k : Nat} (hc : c ≤ 364) (hk : k < 32768) : ((364 - nI c) <<< ((15 : Int32) &&& 31)) ||| nI k = nI (enc c k) := by
  rw [show (364 : Int32) = nI 364 from rfl, nI_sub hc, shl_15 (364 - c) (by omega), fa_or_sum _ (show k < 2 ^ 15 by omega)]
  unfold enc
  congr 1
  omega
theorem enc_mod {c k : Nat} (hk : k < 32768) : enc c k % 32768 = k := by unfold enc; omega
theorem enc_div {c k : Nat} (hk : k < 32768) : enc c k / 32768 = 364 - c := by unfold enc; omega
theorem enc_lt {c k : Nat} (hk : k < 32768) : enc c k < 11960320 := by unfold enc; omega
/-- like ballots lie together -/
def CI (V : Nat) (g : Nat → Int32) (G : Nat → Nat) (f a : Nat) (oT : St) : Prop :=
  oT.1 5 = nI V ∧ oT.2.2 7 = g ∧ f ≤ a ∧ a ≤ V ∧ (a = V → f = V) ∧ (∀ j, f ≤ j → j ≤ a → j < V → G j = G f) ∧ (∀ j, j < f → f < V → G j < G f) ∧
  ∃ (z : Nat) (O : Nat → Nat), oT.1 4 = nI z ∧ z ≤ f ∧ (∀ i, i < z → oT.2.2 8 i = nI (O i)) ∧ (∀ i, i < z → ∃ j, j < f ∧ O i = enc (fb_ct (fun q => decide (G q = G j)) V) (G j)) ∧ (∀ j, j < f → ∃ i, i < z ∧ O i = enc (fb_ct (fun q => decide (G q = G j)) V) (G j)) ∧ ∀ i i', i < i' → i' < z → O i % 32768 < O i' % 32768
set_option maxHeartbeats 4000000 in
theorem cnt_close {V f a : Nat} {g : Nat → Int32} {G : Nat → Nat} {oT : St} (hV : V ≤ 364) (hG : ∀ j, j < V → g j = nI (G j) ∧ G j < 32768) (hs : ∀ i j, i < j → j < V → G i ≤ G j) (ha : a < V) (hI : CI V g G f a oT) (hc : a + 1 = V ∨ a + 1 < V ∧ G (a + 1) ≠ G a) :
    ∃ oT6, aw 364 oT 8 (oT.1 4) (((364 - ((nI a + 1) - nI f)) <<< ((15 : Int32) &&& 31)) ||| g a) = some oT6 ∧ CI V g G (a + 1) (a + 1) (sI oT6 4 (oT6.1 4 + 1)) := by
  obtain ⟨i1, i2, i3, i4, i5, i6, i7, z, O, o1, o2, o3, o4, o5, o6⟩ := hI
  have hfV : f < V := by omega
  have hga := hG a ha
  have hcnt : fb_ct (fun q => decide (G q = G a)) V = a + 1 - f := by
    have e : fb_ct (fun q => decide (G q = G a)) V = fb_ct (fun j => decide (f ≤ j ∧ j ≤ a)) V := by
      apply fb_ct_cong
      intro q hq
      rw [decide_eq_decide]
      constructor
      · intro h
        have h1 : f ≤ q := by
          rcases Nat.lt_or_ge q f with z | z
          · have := i7 q z hfV
            have := i6 a i3 (Nat.le_refl _) ha
            omega
          · exact z
        refine ⟨h1, ?_⟩
        rcases Nat.lt_or_ge a q with z | z
        · rcases hc with h2 | ⟨h2, h3⟩
          · omega
          · have h4 := hs a (a + 1) (by omega) h2
            have h5 : G (a + 1) ≤ G q := by
              rcases Nat.lt_or_ge (a + 1) q with y | y
              · exact hs _ _ y hq
              · have : q = a + 1 := by omega
                rw [this]; exact Nat.le_refl _
            omega
        · exact z
      · intro h
        rw [i6 q h.1 h.2 hq, i6 a i3 (Nat.le_refl _) ha]
    rw [e, ct_iv f a i3 V]
    omega
  have ew : ((364 - ((nI a + 1) - nI f)) <<< ((15 : Int32) &&& 31)) ||| g a = nI (enc (a + 1 - f) (G a)) := by
    rw [nI_1, nI_sub (by omega), hga.1]
    exact enc_w (by omega) hga.2
  rw [ew, o1, aw_n (show z < 364 by omega) (by decide)]
  refine ⟨_, rfl, i1, ?_, Nat.le_refl _, by omega, fun h => h, ?_, ?_, z + 1, fun i => if i = z then enc (a + 1 - f) (G a) else O i, ?_, by omega, ?_, ?_, ?_, ?_⟩
  · exact i2
  · intro j h1 h2 h3
    rw [show j = a + 1 by omega]
  · intro j h1 h2
    rcases Nat.lt_or_ge j f with q | q
    · have b1 := i7 j q hfV
      have b2 := i6 a i3 (Nat.le_refl _) ha
      have b3 := hs a (a + 1) (by omega) h2
      omega
    · have b1 := i6 j q (by omega) (by omega)
      have b2 := i6 a i3 (Nat.le_refl _) ha
      have b3 := hs a (a + 1) (by omega) h2
      rcases hc with y | ⟨-, y⟩ <;> omega
  · show oT.1 4 + 1 = _
    rw [o1, nI_1]
  · intro i hi
    show upd (oT.2.2 8) z (nI (enc (a + 1 - f) (G a))) i = nI (if i = z then enc (a + 1 - f) (G a) else O i)
    rw [upd_e]
    by_cases e : i = z
    · rw [if_pos e, if_pos e]
    · rw [if_neg e, if_neg e]; exact o3 i (by omega)
  · intro i hi
    dsimp only
    by_cases e : i = z
    · refine ⟨a, by omega, ?_⟩
      rw [if_pos e, hcnt]
    · obtain ⟨j, h1, h2⟩ := o4 i (by omega)
      exact ⟨j, by omega, by rw [if_neg e]; exact h2⟩
  · intro j hj
    dsimp only
    rcases Nat.lt_or_ge j f with q | q
    · obtain ⟨i, h1, h2⟩ := o5 j q
      exact ⟨i, by omega, by rw [if_neg (by omega)]; exact h2⟩
    · refine ⟨z, by omega, ?_⟩
      have e : G j = G a := by rw [i6 j q (by omega) (by omega), i6 a i3 (Nat.le_refl _) ha]
      rw [if_pos rfl, e, hcnt]
  · intro i i' h1 h2
    show (if i = z then enc (a + 1 - f) (G a) else O i) % 32768 < (if i' = z then enc (a + 1 - f) (G a) else O i') % 32768
    rw [if_neg (show ¬ i = z by omega)]
    by_cases e : i' = z
    · rw [if_pos e, enc_mod hga.2]
      obtain ⟨j, h3, h4⟩ := o4 i (by omega)
      rw [h4, enc_mod (hG j (by omega)).2]
      have b1 := i7 j h3 hfV
      have b2 := i6 a i3 (Nat.le_refl _) ha
      omega
    · rw [if_neg e]; exact o6 i i' h1 (by omega)
set_option maxHeartbeats 4000000 in
theorem cnt_L {V : Nat} {g : Nat → Int32} {G : Nat → Nat} (hV : V ≤ 364) (hG : ∀ j, j < V → g j = nI (G j) ∧ G j < 32768) (hs : ∀ i j, i < j → j < V → G i ≤ G j) :
    ∀ (fuel f a : Nat) (oT : St), V - a < fuel → CI V g G f a oT → ∃ oT', f_X5_countBallots_L9 fuel (nI f) (nI a) oT = some oT' ∧ CI V g G V V oT' ∧ oT'.1 6 = oT.1 6
  | 0, f, a, oT, h, _ => by omega
  | fuel + 1, f, a, oT, hf, hI => by
    have i1 := hI.1
    have i2 := hI.2.1
    have i4 := hI.2.2.2.1
    have i5 := hI.2.2.2.2.1
    rw [f_X5_countBallots_L9_s, i1, i2]
    by_cases h1 : V ≤ a
    · have e : a = V := by omega
      have e2 := i5 e
      subst e
      subst e2
      rw [if_pos (nI_le (Nat.le_refl _) (by omega))]
      exact ⟨oT, rfl, hI, rfl⟩
    · have ha : a < V := by omega
      rw [if_neg (nI_ge ha (by omega)), ag_n (show a < 364 by omega) (by decide)]
      simp only [bn1_s]
      by_cases h2 : a + 1 = V
      · rw [if_pos (by rw [nI_1, h2])]
        obtain ⟨oT6, g1, g2⟩ := cnt_close hV hG hs ha hI (Or.inl h2)
        rw [g1, bn1_s, nI_1]
        obtain ⟨oT', k1, k2, k3⟩ := cnt_L hV hG hs fuel (a + 1) (a + 1) (sI oT6 4 (oT6.1 4 + 1)) (by omega) g2
        refine ⟨oT', k1, k2, k3.trans ?_⟩
        have g3 := (aw_e g1).2
        rw [← g3]
        rfl
      · rw [if_neg (by rw [nI_1]; exact fun z => h2 ((nI_eq (by omega) (by omega)).mp z)), nI_1, ag_n (show a + 1 < 364 by omega) (by decide), bn1_s]
        have e1 := hG (a + 1) (by omega)
        have e2 := hG a ha
        by_cases h3 : G (a + 1) = G a
        · rw [if_pos (by rw [e1.1, e2.1, h3])]
          obtain ⟨j1, j2, j3, j4, j5, j6, j7, j8⟩ := hI
          exact cnt_L hV hG hs fuel f (a + 1) oT (by omega) ⟨j1, j2, by omega, by omega, fun z => absurd z h2, fun j b1 b2 b3 => by
            rcases Nat.lt_or_ge a j with q | q
            · rw [show j = a + 1 by omega, h3]; exact j6 a j3 (Nat.le_refl _) ha
            · exact j6 j b1 q b3, j7, j8⟩
        · rw [if_neg (by rw [e1.1, e2.1]; exact fun z => h3 ((nI_eq (by omega) (by omega)).mp z))]
          obtain ⟨oT6, g1, g2⟩ := cnt_close hV hG hs ha hI (Or.inr ⟨by omega, h3⟩)
          rw [nI_1] at g1
          rw [g1, bn1_s]
          obtain ⟨oT', k1, k2, k3⟩ := cnt_L hV hG hs fuel (a + 1) (a + 1) (sI oT6 4 (oT6.1 4 + 1)) (by omega) g2
          refine ⟨oT', k1, k2, k3.trans ?_⟩
          have g3 := (aw_e g1).2
          rw [← g3]
          rfl
