/-! numbers mixed one after the other -/
def fm (f : Nat → Int32) : Nat → Int64 → Int64
  | 0, h => h
  | k + 1, h => 31 * fm f k h + (f k).toInt64
theorem fm_s (f : Nat → Int32) (k : Nat) (h : Int64) : fm f (k + 1) h = 31 * fm f k h + (f k).toInt64 := rfl
theorem fm_add (f : Nat → Int32) (a : Nat) (h : Int64) : ∀ b, fm f (a + b) h = fm (fun k => f (a + k)) b (fm f a h)
  | 0 => rfl
  | b + 1 => by rw [← Nat.add_assoc, fm_s, fm_s, fm_add f a h b]
theorem fm_cong {f g : Nat → Int32} (h : Int64) : ∀ {n : Nat}, (∀ k, k < n → f k = g k) → fm f n h = fm g n h
  | 0, _ => rfl
  | n + 1, e => by rw [fm_s, fm_s, fm_cong h (fun k hk => e k (by omega)), e n (by omega)]
theorem fm_nest (f : Nat → Nat → Int32) {m : Nat} (hm : 0 < m) (i : Nat) (h : Int64) : fm (fun w => f i w) m (fm (fun k => f (k / m) (k % m)) (m * i) h) = fm (fun k => f (k / m) (k % m)) (m * (i + 1)) h := by
  rw [Nat.mul_succ, fm_add]
  apply fm_cong
  intro w hw
  have e1 : (m * i + w) / m = i := by rw [Nat.mul_add_div hm, Nat.div_eq_of_lt hw]; omega
  have e2 : (m * i + w) % m = w := by rw [Nat.mul_add_mod, Nat.mod_eq_of_lt hw]
  rw [e1, e2]
theorem w_in {w m : Nat} (h : w ≤ m) (hm : m < 1000) : (0 : Int) ≤ (nI w).toInt ∧ (nI w).toInt ≤ (m : Int) := by rw [nI_toInt (by omega)]; omega
/-! the class -/
theorem wd5 {oB : St} (hW : ¬ (oB.1 0).toInt ≤ 0) (K : Int64 → Option Int64) (h : Int64) : f_X6_withDots_L5 oB K fu h 0 = K (fm (fun w => abS oB (nI w)) 8 h) := by
  obtain ⟨s, h1, h2⟩ := lpn (fun fuel k (s : Int64) => f_X6_withDots_L5 oB K fuel s (nI k)) (fun s => K s) 8 (fun k s => s = fm (fun w => abS oB (nI w)) k h) (by
    intro fuel k s hk hs
    refine ⟨_, ?_, rfl⟩
    show f_X6_withDots_L5 oB K (fuel + 1) s (nI k) = f_X6_withDots_L5 oB K fuel (fm (fun w => abS oB (nI w)) (k + 1) h) (nI (k + 1))
    rw [f_X6_withDots_L5_s, if_neg (show ¬ (7 : Int32) < nI k from nI_nlt (a := 7) (by omega) (by decide)), ab_c hW _ (w_in (m := 7) (by omega) (by omega)), bn1_s, bn1_s, nI_1, hs, fm_s]) (by
    intro fuel s hs
    show f_X6_withDots_L5 oB K (fuel + 1) s (nI 8) = _
    rw [f_X6_withDots_L5_s, if_pos (by decide)]) fu 0 h (by omega) (by unfold fu; omega) rfl
  rw [h2] at h1
  exact h1
theorem wd50 {oR oM oB : St} {n i : Nat} (hw : wB oB n) (hR : RR oR oM n) (hi : i < n) (K : Int64 → Option Int64) (h : Int64) : f_X6_withDots_L50 oR oB (nI i) K fu h 0 = K (fm (fun w => tdS oB oM i (nI w)) 4 h) := by
  obtain ⟨s, h1, h2⟩ := lpn (fun fuel k (s : Int64) => f_X6_withDots_L50 oR oB (nI i) K fuel s (nI k)) (fun s => K s) 4 (fun k s => s = fm (fun w => tdS oB oM i (nI w)) k h) (by
    intro fuel k s hk hs
    refine ⟨_, ?_, rfl⟩
    show f_X6_withDots_L50 oR oB (nI i) K (fuel + 1) s (nI k) = f_X6_withDots_L50 oR oB (nI i) K fuel (fm (fun w => tdS oB oM i (nI w)) (k + 1) h) (nI (k + 1))
    rw [f_X6_withDots_L50_s, if_neg (show ¬ (3 : Int32) < nI k from nI_nlt (a := 3) (by omega) (by decide)), told_cc hw hR hi, bn1_s, bn1_s, nI_1, hs, fm_s]) (by
    intro fuel s hs
    show f_X6_withDots_L50 oR oB (nI i) K (fuel + 1) s (nI 4) = _
    rw [f_X6_withDots_L50_s, if_pos (by decide)]) fu 0 h (by omega) (by unfold fu; omega) rfl
  rw [h2] at h1
  exact h1
def tdF (oB oM : St) : Nat → Int32 := fun k => tdS oB oM (k / 4) (nI (k % 4))
theorem wdots {oR oM oB : St} {n : Nat} (hw : wB oB n) (hW : ¬ (oB.1 0).toInt ≤ 0) (hR : RR oR oM n) (h : Int64) : f_X6_withDots oR oB h = some (fm (tdF oB oM) (4 * n) (fm (fun w => abS oB (nI w)) 8 h)) := by
  have hn := hw.1
  unfold f_X6_withDots
  rw [wd5 hW]
  obtain ⟨s, h1, h2⟩ := lpn (fun fuel k (s : Int64) => f_X6_withDots_L35 oR oB fuel s (nI k)) (fun s => some s) n (fun k s => s = fm (tdF oB oM) (4 * k) (fm (fun w => abS oB (nI w)) 8 h)) (by
    intro fuel k s hk hs
    refine ⟨_, ?_, rfl⟩
    show f_X6_withDots_L35 oR oB (fuel + 1) s (nI k) = f_X6_withDots_L35 oR oB fuel (fm (tdF oB oM) (4 * (k + 1)) (fm (fun w => abS oB (nI w)) 8 h)) (nI (k + 1))
    rw [f_X6_withDots_L35_s, hw.2.1, if_neg (nI_ge hk (by omega)), wd50 hw hR hk, nI_1, hs]
    have e := fm_nest (fun i w => tdS oB oM i (nI w)) (m := 4) (by omega) k (fm (fun w => abS oB (nI w)) 8 h)
    show f_X6_withDots_L35 oR oB fuel (fm (fun w => tdS oB oM k (nI w)) 4 (fm (tdF oB oM) (4 * k) (fm (fun w => abS oB (nI w)) 8 h))) (nI (k + 1)) = _
    rw [show tdF oB oM = fun k => tdS oB oM (k / 4) (nI (k % 4)) from rfl, e]) (by
    intro fuel s hs
    show f_X6_withDots_L35 oR oB (fuel + 1) s (nI n) = _
    rw [f_X6_withDots_L35_s, hw.2.1, if_pos (nI_le (Nat.le_refl _) (by omega))]) fu 0 (fm (fun w => abS oB (nI w)) 8 h) (by omega) (by unfold fu; omega) rfl
  rw [h2] at h1
  exact h1
/-- what spots() tells, by the class's table -/
def ttF (oT : St) (m : Nat) : Nat → Int32 := fun w => if w = 0 then oT.1 4 else if w = 1 then oT.1 5 else if w = 2 then oT.1 6 else nI m
theorem tot_c {oT : St} {m : Nat} (hf : f_X5_foremost oT = some (nI m)) {w : Nat} (hw : w < 4) : f_X5_total oT (nI w) = some (ttF oT m w) := by
  unfold f_X5_total ttF
  rw [hf, bn1_s]
  have e0 : nI w = 0 ↔ w = 0 := nI_eq (b := 0) (by omega) (by omega)
  have e1 : nI w = 1 ↔ w = 1 := nI_eq (b := 1) (by omega) (by omega)
  have e2 : nI w = 2 ↔ w = 2 := nI_eq (b := 2) (by omega) (by omega)
  have e3 : nI w = 3 ↔ w = 3 := nI_eq (b := 3) (by omega) (by omega)
  simp only [e0, e1, e2, e3]
  by_cases c0 : w = 0
  · rw [if_pos c0, if_pos c0]
  · rw [if_neg c0, if_neg c0]
    by_cases c1 : w = 1
    · rw [if_pos c1, if_pos c1]
    · rw [if_neg c1, if_neg c1]
      by_cases c2 : w = 2
      · rw [if_pos c2, if_pos c2]
      · rw [if_neg c2, if_neg c2, if_pos (by omega)]
theorem ws5 {oT : St} {m : Nat} (hf : f_X5_foremost oT = some (nI m)) (K : Int64 → Option (Int64 × St)) (h : Int64) : f_X6_withSpots_L5 oT K fu h 0 = K (fm (ttF oT m) 4 h) := by
  obtain ⟨s, h1, h2⟩ := lpn (fun fuel k (s : Int64) => f_X6_withSpots_L5 oT K fuel s (nI k)) (fun s => K s) 4 (fun k s => s = fm (ttF oT m) k h) (by
    intro fuel k s hk hs
    refine ⟨_, ?_, rfl⟩
    show f_X6_withSpots_L5 oT K (fuel + 1) s (nI k) = f_X6_withSpots_L5 oT K fuel (fm (ttF oT m) (k + 1) h) (nI (k + 1))
    rw [f_X6_withSpots_L5_s, if_neg (show ¬ (3 : Int32) < nI k from nI_nlt (a := 3) (by omega) (by decide)), tot_c hf hk, bn1_s, bn1_s, nI_1, hs, fm_s]) (by
    intro fuel s hs
    show f_X6_withSpots_L5 oT K (fuel + 1) s (nI 4) = _
    rw [f_X6_withSpots_L5_s, if_pos (by decide)]) fu 0 h (by omega) (by unfold fu; omega) rfl
  rw [h2] at h1
  exact h1
theorem ws52 {oT oB : St} {n i e : Nat} (hw : wB oB n) (hi : i < 364) (he : e / 32768 ≤ 364) (he2 : e < 11960320) (h8 : oT.2.2 8 i = nI e) (h9 : oT.2.2 9 i = suS oB (e % 32) (e / 32 % 32) (e / 1024 % 32) n) (K : Int64 → St → Option (Int64 × St)) (h : Int64) (oG : St) : ∃ oG', f_X6_withSpots_L52 oT oB (nI i) K fu h 0 oG = K (fm (fun w => tlS oB n e (nI w)) 7 h) oG' := by
  obtain ⟨s, h1, h2⟩ := lpn (fun fuel k (s : Int64 × St) => f_X6_withSpots_L52 oT oB (nI i) K fuel s.1 (nI k) s.2) (fun s => K s.1 s.2) 7 (fun k s => s.1 = fm (fun w => tlS oB n e (nI w)) k h) (by
    intro fuel k s hk hs
    obtain ⟨oG', g1⟩ := tell_c (oG := s.2) hw hi he he2 h8 h9 (nI k)
    refine ⟨(fm (fun w => tlS oB n e (nI w)) (k + 1) h, oG'), ?_, rfl⟩
    show f_X6_withSpots_L52 oT oB (nI i) K (fuel + 1) s.1 (nI k) s.2 = f_X6_withSpots_L52 oT oB (nI i) K fuel (fm (fun w => tlS oB n e (nI w)) (k + 1) h) (nI (k + 1)) oG'
    rw [f_X6_withSpots_L52_s, if_neg (show ¬ (6 : Int32) < nI k from nI_nlt (a := 6) (by omega) (by decide)), g1, bn2_s, bn1_s, nI_1, hs, fm_s]) (by
    intro fuel s hs
    show f_X6_withSpots_L52 oT oB (nI i) K (fuel + 1) s.1 (nI 7) s.2 = _
    rw [f_X6_withSpots_L52_s, if_pos (by decide)]) fu 0 (h, oG) (by omega) (by unfold fu; omega) rfl
  refine ⟨s.2, ?_⟩
  rw [← h2]
  exact h1
def tlF (oB : St) (n : Nat) (E : Nat → Nat) : Nat → Int32 := fun k => tlS oB n (E (k / 7)) (nI (k % 7))
theorem wspots {oT oB : St} {n m Z : Nat} {E : Nat → Nat} (hw : wB oB n) (hf : f_X5_foremost oT = some (nI m)) (hZ : Z ≤ 364) (h4 : oT.1 4 = nI Z) (hb : ∀ i, i < Z → E i < 11960320 ∧ E i / 32768 ≤ 364) (h8 : ∀ i, i < Z → oT.2.2 8 i = nI (E i) ∧ oT.2.2 9 i = suS oB (E i % 32) (E i / 32 % 32) (E i / 1024 % 32) n) (h : Int64) (oG : St) : ∃ oG', f_X6_withSpots oT oB oG h = some (fm (tlF oB n E) (7 * Z) (fm (ttF oT m) 4 h), oG') := by
  unfold f_X6_withSpots
  rw [ws5 hf]
  obtain ⟨s, h1, h2⟩ := lpn (fun fuel k (s : Int64 × St) => f_X6_withSpots_L37 oT oB fuel s.1 (nI k) s.2) (fun s => some (s.1, s.2)) Z (fun k s => s.1 = fm (tlF oB n E) (7 * k) (fm (ttF oT m) 4 h)) (by
    intro fuel k s hk hs
    obtain ⟨oG', g1⟩ := ws52 (oG := s.2) hw (show k < 364 by omega) (hb k hk).2 (hb k hk).1 (h8 k hk).1 (h8 k hk).2 (fun (v14 : Int64) (oG15 : St) => f_X6_withSpots_L37 oT oB fuel v14 (nI k + 1) oG15) s.1
    refine ⟨(fm (tlF oB n E) (7 * (k + 1)) (fm (ttF oT m) 4 h), oG'), ?_, rfl⟩
    show f_X6_withSpots_L37 oT oB (fuel + 1) s.1 (nI k) s.2 = f_X6_withSpots_L37 oT oB fuel (fm (tlF oB n E) (7 * (k + 1)) (fm (ttF oT m) 4 h)) (nI (k + 1)) oG'
    have e := fm_nest (fun i w => tlS oB n (E i) (nI w)) (m := 7) (by omega) k (fm (ttF oT m) 4 h)
    rw [f_X6_withSpots_L37_s, h4, if_neg (nI_ge hk (by omega)), g1, nI_1, hs]
    show f_X6_withSpots_L37 oT oB fuel (fm (fun w => tlS oB n (E k) (nI w)) 7 (fm (tlF oB n E) (7 * k) (fm (ttF oT m) 4 h))) (nI (k + 1)) oG' = _
    rw [show tlF oB n E = fun k => tlS oB n (E (k / 7)) (nI (k % 7)) from rfl, e]) (by
    intro fuel s hs
    show f_X6_withSpots_L37 oT oB (fuel + 1) s.1 (nI Z) s.2 = _
    rw [f_X6_withSpots_L37_s, h4, if_pos (nI_le (Nat.le_refl _) (by omega))]) fu 0 (fm (ttF oT m) 4 h, oG) (by omega) (by unfold fu; omega) rfl
  refine ⟨s.2, ?_⟩
  rw [← h2]
  exact h1
theorem wr20 {oR oB : St} {n i k : Nat} {p : Nat → Bool} (hw : wB oB n) (hi : i < 7) (hk : k < 32768) (h5 : oR.2.2 5 i = nI k) (h6 : oR.2.2 6 i = bs p n) (K : Int64 → St → Option (Int64 × St)) (h : Int64) (oG : St) : ∃ oG', f_X6_withRings_L20 oR oB (nI i) K fu h 0 oG = K (fm (fun w => rgS oB n k (oR.2.2 6 i) (nI w)) 7 h) oG' := by
  obtain ⟨s, h1, h2⟩ := lpn (fun fuel k (s : Int64 × St) => f_X6_withRings_L20 oR oB (nI i) K fuel s.1 (nI k) s.2) (fun s => K s.1 s.2) 7 (fun q s => s.1 = fm (fun w => rgS oB n k (oR.2.2 6 i) (nI w)) q h) (by
    intro fuel q s hq hs
    obtain ⟨oG', g1⟩ := rtell_c hw hi hk h5 h6 s.2 (nI q)
    rw [← h6] at g1
    refine ⟨(fm (fun w => rgS oB n k (oR.2.2 6 i) (nI w)) (q + 1) h, oG'), ?_, rfl⟩
    show f_X6_withRings_L20 oR oB (nI i) K (fuel + 1) s.1 (nI q) s.2 = f_X6_withRings_L20 oR oB (nI i) K fuel (fm (fun w => rgS oB n k (oR.2.2 6 i) (nI w)) (q + 1) h) (nI (q + 1)) oG'
    rw [f_X6_withRings_L20_s, if_neg (show ¬ (6 : Int32) < nI q from nI_nlt (a := 6) (by omega) (by decide)), g1, bn2_s, bn1_s, nI_1, hs, fm_s]) (by
    intro fuel s hs
    show f_X6_withRings_L20 oR oB (nI i) K (fuel + 1) s.1 (nI 7) s.2 = _
    rw [f_X6_withRings_L20_s, if_pos (by decide)]) fu 0 (h, oG) (by omega) (by unfold fu; omega) rfl
  refine ⟨s.2, ?_⟩
  rw [← h2]
  exact h1
def rgF (oR oB : St) (n : Nat) : Nat → Int32 := fun k => rgS oB n (oR.2.2 5 (k / 7)).toNatClampNeg (oR.2.2 6 (k / 7)) (nI (k % 7))
theorem wrings {oR oM oB : St} {n : Nat} (hw : wB oB n) (hR : RR oR oM n) (h : Int64) (oG : St) : ∃ q oG', q ≤ 7 ∧ oR.1 4 = nI q ∧ f_X6_withRings oR oB oG h = some (fm (rgF oR oB n) (7 * q) h, oG') := by
  unfold f_X6_withRings
  rcases hR with ⟨r1, r2, r3⟩ | ⟨r1, r2, q, s1, s2, s3, s4, s5, s6⟩
  · refine ⟨0, oG, by omega, r3, ?_⟩
    rw [show fu = 4999 + 1 from rfl, f_X6_withRings_L5_s, r3, if_pos (by decide)]
    rfl
  · obtain ⟨s, h1, h2⟩ := lpn (fun fuel k (s : Int64 × St) => f_X6_withRings_L5 oR oB fuel s.1 (nI k) s.2) (fun s => some (s.1, s.2)) q (fun k s => s.1 = fm (rgF oR oB n) (7 * k) h) (by
      intro fuel k s hk hs
      obtain ⟨kk, k1, k2, -⟩ := s4 k hk
      obtain ⟨-, ek⟩ := clamp_nI k2 (by omega)
      obtain ⟨oG', g1⟩ := wr20 (oG := s.2) hw (show k < 7 by omega) k1 k2 (s5 k hk) (fun (v8 : Int64) (oG9 : St) => f_X6_withRings_L5 oR oB fuel v8 (nI k + 1) oG9) s.1
      refine ⟨(fm (rgF oR oB n) (7 * (k + 1)) h, oG'), ?_, rfl⟩
      show f_X6_withRings_L5 oR oB (fuel + 1) s.1 (nI k) s.2 = f_X6_withRings_L5 oR oB fuel (fm (rgF oR oB n) (7 * (k + 1)) h) (nI (k + 1)) oG'
      have e := fm_nest (fun i w => rgS oB n (oR.2.2 5 i).toNatClampNeg (oR.2.2 6 i) (nI w)) (m := 7) (by omega) k h
      rw [ek] at e
      rw [f_X6_withRings_L5_s, s1, if_neg (nI_ge hk (by omega)), g1, nI_1, hs]
      show f_X6_withRings_L5 oR oB fuel (fm (fun w => rgS oB n kk (oR.2.2 6 k) (nI w)) 7 (fm (rgF oR oB n) (7 * k) h)) (nI (k + 1)) oG' = _
      rw [show rgF oR oB n = fun k => rgS oB n (oR.2.2 5 (k / 7)).toNatClampNeg (oR.2.2 6 (k / 7)) (nI (k % 7)) from rfl, e]) (by
      intro fuel s hs
      show f_X6_withRings_L5 oR oB (fuel + 1) s.1 (nI q) s.2 = _
      rw [f_X6_withRings_L5_s, s1, if_pos (nI_le (Nat.le_refl _) (by omega))]) fu 0 (h, oG) (by omega) (by unfold fu; omega) rfl
    refine ⟨q, s.2, s3, s1, ?_⟩
    rw [← h2]
    exact h1
theorem dig41 {oP : St} {p : Nat} (hp : p ≤ 50) (h1' : oP.1 1 = nI p) (K : Int64 → Option (Int64 × St × St × St)) (h : Int64) : f_X6_digest_L41 oP K fu h 0 = K (fm (fun j => oP.2.2 0 j) p h) := by
  obtain ⟨s, h1, h2⟩ := lpn (fun fuel k (s : Int64) => f_X6_digest_L41 oP K fuel s (nI k)) (fun s => K s) p (fun k s => s = fm (fun j => oP.2.2 0 j) k h) (by
    intro fuel k s hk hs
    refine ⟨_, ?_, rfl⟩
    show f_X6_digest_L41 oP K (fuel + 1) s (nI k) = f_X6_digest_L41 oP K fuel (fm (fun j => oP.2.2 0 j) (k + 1) h) (nI (k + 1))
    rw [f_X6_digest_L41_s, h1', if_neg (nI_ge hk (by omega)), ag_n (show k < 50 by omega) (by decide), bn1_s, bn1_s, nI_1, hs, fm_s]) (by
    intro fuel s hs
    show f_X6_digest_L41 oP K (fuel + 1) s (nI p) = _
    rw [f_X6_digest_L41_s, h1', if_pos (nI_le (Nat.le_refl _) (by omega))]) fu 0 h (by omega) (by unfold fu; omega) rfl
  rw [h2] at h1
  exact h1
def cvF (oX oP oR oB : St) : Nat → Int32 := fun w => (f_X6_count oX oP oR oB (nI w)).getD 0
theorem cv_both {oX oP oR oT oB oM : St} (h : REL oX oP oR oT oB oM) (w : Nat) : f_X6_count oX oP oR oB (nI w) = some (cvF oX oP oR oB w) ∧ f_X7_howMany oM (nI w) = some (cvF oX oP oR oB w) := by
  obtain ⟨r, h1, h2⟩ := cnt_both h (nI w)
  unfold cvF
  rw [h1, h2]
  exact ⟨rfl, rfl⟩
theorem dig77 {oX oP oR oT oB oM : St} (hr : REL oX oP oR oT oB oM) (oT' oC oG : St) (h : Int64) : f_X6_digest_L77 oX oP oR oT' oB oC oG fu h 0 = some (fm (cvF oX oP oR oB) 7 h, oT', oC, oG) := by
  obtain ⟨s, h1, h2⟩ := lpn (fun fuel k (s : Int64) => f_X6_digest_L77 oX oP oR oT' oB oC oG fuel s (nI k)) (fun s => some (s, oT', oC, oG)) 7 (fun k s => s = fm (cvF oX oP oR oB) k h) (by
    intro fuel k s hk hs
    refine ⟨_, ?_, rfl⟩
    show f_X6_digest_L77 oX oP oR oT' oB oC oG (fuel + 1) s (nI k) = f_X6_digest_L77 oX oP oR oT' oB oC oG fuel (fm (cvF oX oP oR oB) (k + 1) h) (nI (k + 1))
    rw [f_X6_digest_L77_s, if_neg (show ¬ (6 : Int32) < nI k from nI_nlt (a := 6) (by omega) (by decide)), (cv_both hr k).1, bn1_s, bn1_s, nI_1, hs, fm_s]) (by
    intro fuel s hs
    show f_X6_digest_L77 oX oP oR oT' oB oC oG (fuel + 1) s (nI 7) = _
    rw [f_X6_digest_L77_s, if_pos (by decide)]) fu 0 h (by omega) (by unfold fu; omega) rfl
  rw [h2] at h1
  exact h1
