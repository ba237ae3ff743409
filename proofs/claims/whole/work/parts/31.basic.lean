/-! loops -/
theorem lp {σ ρ τ : Type} (F : Nat → σ → Option ρ) (G : τ → Option ρ) (Inv : σ → Prop) (Post : τ → Prop) (μ : σ → Nat)
    (h : ∀ (fuel : Nat) (s : σ), Inv s → (∃ q, F (fuel + 1) s = G q ∧ Post q) ∨ (∃ s', F (fuel + 1) s = F fuel s' ∧ Inv s' ∧ μ s' < μ s)) :
    ∀ (fuel : Nat) (s : σ), Inv s → μ s < fuel → ∃ q, F fuel s = G q ∧ Post q := by
  intro fuel
  induction fuel with
  | zero => intro s _ h0; omega
  | succ fuel ih =>
    intro s hs hm
    rcases h fuel s hs with hq | ⟨s', h1, h2, h3⟩
    · exact hq
    · obtain ⟨q, h4, h5⟩ := ih s' h2 (by omega)
      exact ⟨q, h1.trans h4, h5⟩
theorem lpn {σ ρ : Type} (F : Nat → Nat → σ → Option ρ) (G : σ → Option ρ) (n : Nat) (Inv : Nat → σ → Prop)
    (step : ∀ (fuel k : Nat) (s : σ), k < n → Inv k s → ∃ s', F (fuel + 1) k s = F fuel (k + 1) s' ∧ Inv (k + 1) s')
    (stop : ∀ (fuel : Nat) (s : σ), Inv n s → F (fuel + 1) n s = G s) :
    ∀ (fuel k : Nat) (s : σ), k ≤ n → n - k < fuel → Inv k s → ∃ s', F fuel k s = G s' ∧ Inv n s' := by
  intro fuel
  induction fuel with
  | zero => intro k s _ h0; omega
  | succ fuel ih =>
    intro k s hk hm hs
    rcases Nat.lt_or_ge k n with h | h
    · obtain ⟨s', h1, h2⟩ := step fuel k s h hs
      obtain ⟨q, h4, h5⟩ := ih (k + 1) s' h (by omega) h2
      exact ⟨q, h1.trans h4, h5⟩
    · have e : k = n := by omega
      subst e
      exact ⟨s, stop fuel s hs, hs⟩
/-! binds, fields -/
section
variable {α β γ δ ε ζ η : Type}
theorem bn1_s (a : α) (k : α → Option η) : bn1 (some a) k = k a := rfl
theorem bn2_s (a : α) (b : β) (k : α → β → Option η) : bn2 (some (a, b)) k = k a b := rfl
theorem bn3_s (a : α) (b : β) (c : γ) (k : α → β → γ → Option η) : bn3 (some (a, b, c)) k = k a b c := rfl
theorem bn4_s (a : α) (b : β) (c : γ) (d : δ) (k : α → β → γ → δ → Option η) : bn4 (some (a, b, c, d)) k = k a b c d := rfl
theorem bn5_s (a : α) (b : β) (c : γ) (d : δ) (e : ε) (k : α → β → γ → δ → ε → Option η) : bn5 (some (a, b, c, d, e)) k = k a b c d e := rfl
theorem bn6_s (a : α) (b : β) (c : γ) (d : δ) (e : ε) (f : ζ) (k : α → β → γ → δ → ε → ζ → Option η) : bn6 (some (a, b, c, d, e, f)) k = k a b c d e f := rfl
end
theorem ag_n {n k : Nat} {f : Nat → Int32} (h : k < n) (hn : n < 2 ^ 31) : ag n f (nI k) = some (f k) := by
  unfold ag
  rw [if_pos (nI_in h hn), nI_clamp (by omega)]
theorem au_n {n k : Nat} {f : Nat → Int32} {x : Int32} (h : k < n) (hn : n < 2 ^ 31) : au n f (nI k) x = some (upd f k x) := by
  unfold au
  rw [if_pos (nI_in h hn), nI_clamp (by omega)]
theorem aw_n {n k i : Nat} {S : St} {x : Int32} (h : i < n) (hn : n < 2 ^ 31) : aw n S k (nI i) x = some (sR S k (upd (S.2.2 k) i x)) := by
  unfold aw
  rw [if_pos (nI_in h hn), nI_clamp (by omega)]
theorem sI_1 (S : St) (k : Nat) (v : Int32) (j : Nat) : (sI S k v).1 j = if j = k then v else S.1 j := rfl
theorem sI_2 (S : St) (k : Nat) (v : Int32) : (sI S k v).2 = S.2 := rfl
theorem sL_1 (S : St) (k : Nat) (v : Int64) : (sL S k v).1 = S.1 := rfl
theorem sL_2 (S : St) (k : Nat) (v : Int64) (j : Nat) : (sL S k v).2.1 j = if j = k then v else S.2.1 j := rfl
theorem sL_3 (S : St) (k : Nat) (v : Int64) : (sL S k v).2.2 = S.2.2 := rfl
theorem sR_1 (S : St) (k : Nat) (f : Nat → Int32) : (sR S k f).1 = S.1 := rfl
theorem sR_2 (S : St) (k : Nat) (f : Nat → Int32) : (sR S k f).2.1 = S.2.1 := rfl
theorem sR_3 (S : St) (k : Nat) (f : Nat → Int32) (j : Nat) : (sR S k f).2.2 j = if j = k then f else S.2.2 j := rfl
theorem upd_e (f : Nat → Int32) (k : Nat) (x : Int32) (j : Nat) : upd f k x j = if j = k then x else f j := rfl
theorem nI_m1 (a : Nat) : nI (a + 1) + (-1) = nI a := by
  rw [← nI_pred a]
  exact (Int32.sub_eq_add_neg _ _).symm
theorem nI_s1 (a : Nat) : nI (a + 1) - 1 = nI a := nI_pred a
theorem nI_sub {a b : Nat} (h : b ≤ a) : nI a - nI b = nI (a - b) := by
  have e : nI a = nI (a - b) + nI b := by rw [nI_add]; congr 1; omega
  rw [e]
  have := Int32.add_sub_cancel (nI (a - b)) (nI b)
  exact this
theorem nI_mul (a b : Nat) : nI a * nI b = nI (a * b) := (Int32.ofNat_mul a b).symm
/-! whole numbers within bounds -/
def bI (x : Int32) (v : Int) (m : Nat) : Prop := x.toInt = v ∧ v.natAbs ≤ m
def bL (x : Int64) (v : Int) (m : Nat) : Prop := x.toInt = v ∧ v.natAbs ≤ m
theorem abs_mul_le {v w : Int} {m k : Nat} (h1 : v.natAbs ≤ m) (h2 : w.natAbs ≤ k) : (v * w).natAbs ≤ m * k := by
  rw [Int.natAbs_mul]
  exact Nat.mul_le_mul h1 h2
theorem bI.add {x y : Int32} {v w : Int} {m k : Nat} (h1 : bI x v m) (h2 : bI y w k) (h : m + k < 2147483648) : bI (x + y) (v + w) (m + k) := by
  obtain ⟨rfl, h1⟩ := h1
  obtain ⟨rfl, h2⟩ := h2
  exact ⟨fb_addI (by omega) (by omega), by omega⟩
theorem bI.sub {x y : Int32} {v w : Int} {m k : Nat} (h1 : bI x v m) (h2 : bI y w k) (h : m + k < 2147483648) : bI (x - y) (v - w) (m + k) := by
  obtain ⟨rfl, h1⟩ := h1
  obtain ⟨rfl, h2⟩ := h2
  exact ⟨fb_subI (by omega) (by omega), by omega⟩
theorem bI.mul {x y : Int32} {v w : Int} {m k : Nat} (h1 : bI x v m) (h2 : bI y w k) (h : m * k < 2147483648) : bI (x * y) (v * w) (m * k) := by
  obtain ⟨rfl, h1⟩ := h1
  obtain ⟨rfl, h2⟩ := h2
  have h3 := abs_mul_le h1 h2
  exact ⟨fb_mulI (by omega) (by omega), h3⟩
theorem bI.neg {x : Int32} {v : Int} {m : Nat} (h1 : bI x v m) (h : m < 2147483648) : bI (-x) (-v) m := by
  obtain ⟨rfl, h1⟩ := h1
  exact ⟨fb_negI (by omega), by omega⟩
theorem bI.mono {x : Int32} {v : Int} {m k : Nat} (h1 : bI x v m) (h : m ≤ k) : bI x v k := ⟨h1.1, Nat.le_trans h1.2 h⟩
theorem bL.add {x y : Int64} {v w : Int} {m k : Nat} (h1 : bL x v m) (h2 : bL y w k) (h : m + k < 9223372036854775808) : bL (x + y) (v + w) (m + k) := by
  obtain ⟨rfl, h1⟩ := h1
  obtain ⟨rfl, h2⟩ := h2
  exact ⟨fb_addL (by omega) (by omega), by omega⟩
theorem bL.sub {x y : Int64} {v w : Int} {m k : Nat} (h1 : bL x v m) (h2 : bL y w k) (h : m + k < 9223372036854775808) : bL (x - y) (v - w) (m + k) := by
  obtain ⟨rfl, h1⟩ := h1
  obtain ⟨rfl, h2⟩ := h2
  exact ⟨fb_subL (by omega) (by omega), by omega⟩
theorem bL.mul {x y : Int64} {v w : Int} {m k : Nat} (h1 : bL x v m) (h2 : bL y w k) (h : m * k < 9223372036854775808) : bL (x * y) (v * w) (m * k) := by
  obtain ⟨rfl, h1⟩ := h1
  obtain ⟨rfl, h2⟩ := h2
  have h3 := abs_mul_le h1 h2
  exact ⟨fb_mulL (by omega) (by omega), h3⟩
theorem bL.neg {x : Int64} {v : Int} {m : Nat} (h1 : bL x v m) (h : m < 9223372036854775808) : bL (-x) (-v) m := by
  obtain ⟨rfl, h1⟩ := h1
  refine ⟨?_, by omega⟩
  rw [Int64.toInt_neg]
  exact fb_bmodL (by omega) (by omega)
theorem bL.mono {x : Int64} {v : Int} {m k : Nat} (h1 : bL x v m) (h : m ≤ k) : bL x v k := ⟨h1.1, Nat.le_trans h1.2 h⟩
theorem bI.wide {x : Int32} {v : Int} {m : Nat} (h : bI x v m) : bL x.toInt64 v m := ⟨by rw [Int32.toInt_toInt64]; exact h.1, h.2⟩
theorem bI.of (x : Int32) {m : Nat} (h : x.toInt.natAbs ≤ m) : bI x x.toInt m := ⟨rfl, h⟩
theorem bL.narrow {x : Int64} {v : Int} {m : Nat} (h : bL x v m) (hm : m < 2147483648) : bI x.toInt32 v m := by
  obtain ⟨rfl, h⟩ := h
  refine ⟨?_, h⟩
  rw [Int64.toInt_toInt32]
  exact fb_bmod (by omega) (by omega)
theorem bI.eq {x y : Int32} {v : Int} {m k : Nat} (h1 : bI x v m) (h2 : bI y v k) : x = y := Int32.toInt_inj.mp (h1.1.trans h2.1.symm)
theorem ite10 {α : Type} {P : Prop} [Decidable P] (A B : α) : (if (if P then (1 : Int32) else 0) = 0 then A else B) = if P then B else A := by
  by_cases h : P
  · rw [if_pos h, if_pos h, if_neg (by decide)]
  · rw [if_neg h, if_neg h, if_pos rfl]
theorem ite01 {α : Type} {P : Prop} [Decidable P] (A B : α) : (if (if P then (0 : Int32) else 1) = 0 then A else B) = if P then A else B := by
  by_cases h : P
  · rw [if_pos h, if_pos h, if_pos rfl]
  · rw [if_neg h, if_neg h, if_neg (by decide)]
theorem sm_if {α : Type} {P : Prop} [Decidable P] (A B : α) : (if P then some A else some B) = some (if P then A else B) := by
  by_cases h : P
  · rw [if_pos h, if_pos h]
  · rw [if_neg h, if_neg h]
