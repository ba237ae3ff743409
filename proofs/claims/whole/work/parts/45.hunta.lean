/-! rings: class and reference -/
def RQ (oR oM : St) (n q : Nat) : Prop := oR.1 4 = nI q ∧ oM.1 11 = nI q ∧ q ≤ 7 ∧ (∀ i, i < q → ∃ k, k < 32768 ∧ oR.2.2 5 i = nI k ∧ oM.2.2 12 i = nI (k % 32) ∧ oM.2.2 13 i = nI (k / 32 % 32) ∧ oM.2.2 14 i = nI (k / 1024 % 32)) ∧ (∀ i, i < q → oR.2.2 6 i = bs (fun j => decide (oM.2.2 15 j = nI i)) n) ∧ ∀ j, j < n → oM.2.2 15 j = -1 ∨ ∃ i, i < q ∧ oM.2.2 15 j = nI i
def rM (a b : St) : Prop := (∀ k, k < 10 ∨ 17 < k → b.1 k = a.1 k) ∧ ∀ k, k < 12 ∨ 15 < k → b.2.2 k = a.2.2 k
theorem rM.rf (a : St) : rM a a := ⟨fun _ _ => rfl, fun _ _ => rfl⟩
theorem rM.tr {a b c : St} (h : rM a b) (h2 : rM b c) : rM a c := ⟨fun k hk => (h2.1 k hk).trans (h.1 k hk), fun k hk => (h2.2 k hk).trans (h.2 k hk)⟩
theorem rM.i {a b : St} (h : rM a b) {k : Nat} (v : Int32) (hk : 10 ≤ k ∧ k ≤ 17) : rM a (sI b k v) := ⟨fun j hj => by rw [sI_1, if_neg (by omega)]; exact h.1 j hj, h.2⟩
theorem rM.r {a b : St} (h : rM a b) {k : Nat} (v : Nat → Int32) (hk : 12 ≤ k ∧ k ≤ 15) : rM a (sR b k v) := ⟨h.1, fun j hj => by rw [sR_3, if_neg (by omega)]; exact h.2 j hj⟩
theorem mB.r {oM oM' oB : St} {n : Nat} (h : mB oM oB n) (hk : rM oM oM') : mB oM' oB n := by
  unfold mB at h ⊢
  rw [hk.1 2 (by omega), hk.1 3 (by omega), hk.1 5 (by omega), hk.2 6 (by omega), hk.2 7 (by omega), hk.2 8 (by omega), hk.2 9 (by omega)]
  exact h
theorem eT.r {oM oM' : St} {Z : Nat} {E : Nat → Nat} (h : eT oM Z E) (hk : rM oM oM') : eT oM' Z E := by
  unfold eT at h ⊢
  rw [hk.2 39 (by omega), hk.2 40 (by omega), hk.2 41 (by omega), hk.2 42 (by omega)]
  exact h
/-! what a spot is worth, if some are free -/
def sfS (oB : St) (n e : Nat) (free : Int32) : Int32 := suS oB (e % 32) (e / 32 % 32) (e / 1024 % 32) n &&& free
def wtS (oB : St) (n e : Nat) (free : Int32) : Nat := if (pc (sfS oB n e free) : Int) < (oB.1 6).toInt ∨ (spS oB (e % 32) (e / 32 % 32) n (sfS oB n e free) : Int) < (oB.1 7).toInt then 0 else pc (sfS oB n e free) * spS oB (e % 32) (e / 32 % 32) n (sfS oB n e free)
def bpS (oB : St) (n : Nat) (E : Nat → Nat) (free : Int32) : Nat → Int32 × Nat
  | 0 => (-1, 0)
  | i + 1 => if (bpS oB n E free i).2 < wtS oB n (E i) free then (nI i, wtS oB n (E i) free) else bpS oB n E free i
theorem bpS_s (oB : St) (n : Nat) (E : Nat → Nat) (free : Int32) (i : Nat) : bpS oB n E free (i + 1) = if (bpS oB n E free i).2 < wtS oB n (E i) free then (nI i, wtS oB n (E i) free) else bpS oB n E free i := rfl
theorem wt_le (oB : St) (n e : Nat) (free : Int32) : wtS oB n e free ≤ 196 := by
  unfold wtS
  split
  · omega
  · exact Nat.le_trans (Nat.mul_le_mul (pc_le _) (pc_le _)) (by decide)
theorem bp_le (oB : St) (n : Nat) (E : Nat → Nat) (free : Int32) : ∀ i, (bpS oB n E free i).2 ≤ 196
  | 0 => Nat.zero_le _
  | i + 1 => by
    rw [bpS_s]
    split
    · exact wt_le _ _ _ _
    · exact bp_le oB n E free i
theorem bp_is (oB : St) (n : Nat) (E : Nat → Nat) (free : Int32) : ∀ i, bpS oB n E free i = (-1, 0) ∨ ∃ p, p < i ∧ (bpS oB n E free i).1 = nI p ∧ 0 < wtS oB n (E p) free
  | 0 => Or.inl rfl
  | i + 1 => by
    rw [bpS_s]
    split
    · exact Or.inr ⟨i, by omega, rfl, by omega⟩
    · rcases bp_is oB n E free i with h | ⟨p, h1, h2, h3⟩
      · exact Or.inl h
      · exact Or.inr ⟨p, by omega, h2, h3⟩
theorem bp_none {oB : St} {n : Nat} {E : Nat → Nat} {free : Int32} : ∀ {i : Nat}, (∀ p, p < i → wtS oB n (E p) free = 0) → bpS oB n E free i = (-1, 0)
  | 0, _ => rfl
  | i + 1, h => by
    rw [bpS_s, h i (by omega), if_neg (by omega)]
    exact bp_none (fun p hp => h p (by omega))
set_option maxHeartbeats 4000000 in
theorem worth_c {oB oG : St} {n e : Nat} (hw : wB oB n) (he : e < 11960320) (free : Int32) : ∃ oG', f_X3_worthOf oB oG (nI (e % 32768)) (sfS oB n e free) = some (nI (wtS oB n e free), oG') := by
  have hn := hw.1
  obtain ⟨oG', g1, g2⟩ := from_c oG (k := e % 32768) (by omega)
  rw [show e % 32768 % 32 = e % 32 by omega, show e % 32768 / 32 % 32 = e / 32 % 32 by omega, show e % 32768 / 1024 % 32 = e / 1024 % 32 by omega] at g2
  unfold f_X3_worthOf
  have hs14 : s14 (sfS oB n e free) := s14_and (s14_su oB hn) free
  rw [bc_c hs14, bn1_s, g1, bn1_s, span_c hw g2 (by omega) (by omega), bn1_s]
  have p1 := pc_le (sfS oB n e free)
  have p2 : spS oB (e % 32) (e / 32 % 32) n (sfS oB n e free) ≤ 14 := pc_le _
  have c1 : oB.1 6 ≤ nI (pc (sfS oB n e free)) ↔ ¬ (pc (sfS oB n e free) : Int) < (oB.1 6).toInt := by rw [Int32.le_iff_toInt_le, nI_toInt (by omega)]; omega
  have c2 : oB.1 7 ≤ nI (spS oB (e % 32) (e / 32 % 32) n (sfS oB n e free)) ↔ ¬ (spS oB (e % 32) (e / 32 % 32) n (sfS oB n e free) : Int) < (oB.1 7).toInt := by rw [Int32.le_iff_toInt_le, nI_toInt (by omega)]; omega
  unfold wtS
  by_cases h1 : (pc (sfS oB n e free) : Int) < (oB.1 6).toInt
  · rw [if_neg (fun z => c1.mp z h1), if_pos (Or.inl h1)]
    exact ⟨_, rfl⟩
  · rw [if_pos (c1.mpr h1)]
    by_cases h2 : (spS oB (e % 32) (e / 32 % 32) n (sfS oB n e free) : Int) < (oB.1 7).toInt
    · rw [if_neg (fun z => c2.mp z h2), if_pos (Or.inr h2)]
      exact ⟨_, rfl⟩
    · rw [if_pos (c2.mpr h2), if_neg (fun z => z.elim h1 h2), nI_mul]
      exact ⟨_, rfl⟩
theorem best_c {oB oT : St} {n Z : Nat} {E : Nat → Nat} (hw : wB oB n) (hZ : Z ≤ 364) (h4 : oT.1 4 = nI Z) (hb : ∀ i, i < Z → E i < 11960320) (h8 : ∀ i, i < Z → oT.2.2 8 i = nI (E i) ∧ oT.2.2 9 i = suS oB (E i % 32) (E i / 32 % 32) (E i / 1024 % 32) n) (oG : St) (free : Int32) : ∃ oG', f_X3_bestPlace oT oB oG free = some ((bpS oB n E free Z).1, oG') := by
  obtain ⟨s, h1, h2⟩ := lpn (fun fuel k (s : Int32 × Int32 × St) => f_X3_bestPlace_L7 oT oB free fuel s.1 s.2.1 (nI k) s.2.2) (fun s => some (s.1, s.2.2)) Z (fun k s => s.1 = (bpS oB n E free k).1 ∧ s.2.1 = nI (bpS oB n E free k).2) (by
    intro fuel k s hk hs
    obtain ⟨oG', g1⟩ := worth_c (oG := s.2.2) hw (hb k hk) free
    have w1 := wt_le oB n (E k) free
    have w2 := bp_le oB n E free k
    refine ⟨((bpS oB n E free (k + 1)).1, nI (bpS oB n E free (k + 1)).2, oG'), ?_, rfl, rfl⟩
    show f_X3_bestPlace_L7 oT oB free (fuel + 1) s.1 s.2.1 (nI k) s.2.2 = f_X3_bestPlace_L7 oT oB free fuel (bpS oB n E free (k + 1)).1 (nI (bpS oB n E free (k + 1)).2) (nI (k + 1)) oG'
    rw [f_X3_bestPlace_L7_s, h4, if_neg (nI_ge hk (by omega)), keyAt_n (show k < 364 by omega) (h8 k hk).1, bn1_s, ag_n (show k < 364 by omega) (by decide), bn1_s, (h8 k hk).2]
    rw [show suS oB (E k % 32) (E k / 32 % 32) (E k / 1024 % 32) n &&& free = sfS oB n (E k) free from rfl, g1, bn2_s, hs.1, hs.2, nI_1, bpS_s]
    by_cases c : (bpS oB n E free k).2 < wtS oB n (E k) free
    · rw [if_neg (nI_ge c (by omega)), if_pos c]
    · rw [if_pos (nI_le (by omega) (by omega)), if_neg c]) (by
    intro fuel s hs
    show f_X3_bestPlace_L7 oT oB free (fuel + 1) s.1 s.2.1 (nI Z) s.2.2 = _
    rw [f_X3_bestPlace_L7_s, h4, if_pos (nI_le (Nat.le_refl _) (by omega))]) fu 0 (-1, 0, oG) (by omega) (by unfold fu; omega) ⟨rfl, rfl⟩
  refine ⟨s.2.2, ?_⟩
  rw [← h2.1]
  exact h1
