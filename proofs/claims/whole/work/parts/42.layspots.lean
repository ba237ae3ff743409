/-! the reference's spots -/
def eT (oM : St) (M : Nat) (E : Nat → Nat) : Prop := ∀ i, i < M → oM.2.2 39 i = nI (E i % 32) ∧ oM.2.2 40 i = nI (E i / 32 % 32) ∧ oM.2.2 41 i = nI (E i / 1024 % 32) ∧ oM.2.2 42 i = nI (364 - E i / 32768) ∧ E i / 32768 ≤ 364
def QM (oB : St) (l : List (Nat × Nat × Nat)) (oM : St) : Prop := ∃ (M : Nat) (E : Nat → Nat), oM.1 36 = nI M ∧ oM.1 37 = nI (bal oB l).length ∧ oM.1 38 = nI (olc oB l) ∧ M ≤ (bal oB l).length ∧ eT oM M E ∧ (∀ i, i < M → ∃ k, k ∈ bal oB l ∧ E i = enc ((bal oB l).count k) k) ∧ (∀ k, k ∈ bal oB l → ∃ i, i < M ∧ E i = enc ((bal oB l).count k) k) ∧ ∀ i j, i < j → j < M → E i % 32768 ≠ E j % 32768
/-- what is kept: all but scratch, and the sum in hand -/
def kK (a b : St) : Prop := kM a b ∧ b.2.1 43 = a.2.1 43
theorem kK.rf (a : St) : kK a a := ⟨kM.rf a, rfl⟩
theorem kK.tr {a b c : St} (h : kK a b) (h2 : kK b c) : kK a c := ⟨h.1.tr h2.1, h2.2.trans h.2⟩
theorem kK.i {a b : St} (h : kK a b) {k : Nat} (v : Int32) (hk : 18 ≤ k) : kK a (sI b k v) := ⟨h.1.i v hk, h.2⟩
theorem kK.r {a b : St} (h : kK a b) {k : Nat} (v : Nat → Int32) (hk : 18 ≤ k) : kK a (sR b k v) := ⟨h.1.r v hk, h.2⟩
theorem mV.kk {oM oM' : St} (h : mV oM oM') : kK oM oM' := ⟨h.k, by rw [h.1]⟩
theorem key_eq {e k : Nat} (hk : k < 32768) : (e % 32 = k % 32 ∧ e / 32 % 32 = k / 32 % 32 ∧ e / 1024 % 32 = k / 1024 % 32) ↔ e % 32768 = k := by omega
set_option maxHeartbeats 4000000 in
theorem find_m {oM : St} {M k : Nat} {E : Nat → Nat} (hM : M ≤ 364) (h36 : oM.1 36 = nI M) (hE : eT oM M E) (hk : k < 32768) (h33 : oM.1 33 = nI (k % 32)) (h34 : oM.1 34 = nI (k / 32 % 32)) (h35 : oM.1 35 = nI (k / 1024 % 32)) (K : Int32 → Option St) :
    ∀ (fuel i : Nat), M - i < fuel → i ≤ M → (∀ j, j < i → E j % 32768 ≠ k) → ∃ p, f_X7_vote_L2 oM K fuel (nI i) = K (nI p) ∧ p ≤ M ∧ (∀ j, j < p → E j % 32768 ≠ k) ∧ (p < M → E p % 32768 = k)
  | 0, i, h, _, _ => by omega
  | fuel + 1, i, hf, hi, hn => by
    rw [f_X7_vote_L2_s, h36]
    by_cases h1 : M ≤ i
    · rw [if_pos (nI_le h1 (by omega))]
      exact ⟨i, rfl, hi, hn, fun h => by omega⟩
    · rw [if_neg (nI_ge (by omega) (by omega)), ag_n (show i < 364 by omega) (by decide), ag_n (show i < 364 by omega) (by decide), ag_n (show i < 364 by omega) (by decide)]
      simp only [bn1_s]
      obtain ⟨e1, e2, e3, e4, e5⟩ := hE i (by omega)
      have c1 : oM.2.2 39 i = oM.1 33 ↔ E i % 32 = k % 32 := by rw [e1, h33]; exact nI_eq (by omega) (by omega)
      have c2 : oM.2.2 40 i = oM.1 34 ↔ E i / 32 % 32 = k / 32 % 32 := by rw [e2, h34]; exact nI_eq (by omega) (by omega)
      have c3 : oM.2.2 41 i = oM.1 35 ↔ E i / 1024 % 32 = k / 1024 % 32 := by rw [e3, h35]; exact nI_eq (by omega) (by omega)
      simp only [c1, c2, c3, nI_1]
      have go9 : ¬ E i % 32768 = k → ∃ p, f_X7_vote_L2 oM K fuel (nI (i + 1)) = K (nI p) ∧ p ≤ M ∧ (∀ j, j < p → E j % 32768 ≠ k) ∧ (p < M → E p % 32768 = k) := fun hne =>
        find_m hM h36 hE hk h33 h34 h35 K fuel (i + 1) (by omega) (by omega) (fun j hj => by
          rcases Nat.lt_or_ge j i with q | q
          · exact hn j q
          · rw [show j = i by omega]; exact hne)
      by_cases q1 : E i % 32 = k % 32
      · rw [if_pos q1]
        by_cases q2 : E i / 32 % 32 = k / 32 % 32
        · rw [if_pos q2]
          by_cases q3 : E i / 1024 % 32 = k / 1024 % 32
          · rw [if_pos q3]
            exact ⟨i, rfl, by omega, hn, fun _ => (key_eq hk).mp ⟨q1, q2, q3⟩⟩
          · rw [if_neg q3]
            exact go9 (fun z => q3 ((key_eq hk).mpr z).2.2)
        · rw [if_neg q2]
          exact go9 (fun z => q2 ((key_eq hk).mpr z).2.1)
      · rw [if_neg q1]
        exact go9 (fun z => q1 ((key_eq hk).mpr z).1)
theorem enc_3 {c k : Nat} (hk : k < 32768) : enc c k % 32 = k % 32 ∧ enc c k / 32 % 32 = k / 32 % 32 ∧ enc c k / 1024 % 32 = k / 1024 % 32 := by
  unfold enc
  omega
set_option maxHeartbeats 4000000 in
theorem vote_1 {oB oM : St} {l : List (Nat × Nat × Nat)} {M k : Nat} {E : Nat → Nat} {t : Nat × Nat × Nat} (hlen : (bal oB l).length < 364) (hlt : ∀ q, q ∈ bal oB l → q < 32768) (hb : bal oB (l ++ [t]) = bal oB l ++ [k])
    (h36 : oM.1 36 = nI M) (h37 : oM.1 37 = nI ((bal oB l).length + 1)) (h38 : oM.1 38 = nI (olc oB (l ++ [t]))) (hM : M ≤ (bal oB l).length) (hE : eT oM M E) (p1 : ∀ i, i < M → ∃ k, k ∈ bal oB l ∧ E i = enc ((bal oB l).count k) k) (p2 : ∀ k, k ∈ bal oB l → ∃ i, i < M ∧ E i = enc ((bal oB l).count k) k) (p3 : ∀ i j, i < j → j < M → E i % 32768 ≠ E j % 32768)
    (hk : k < 32768) (h33 : oM.1 33 = nI (k % 32)) (h34 : oM.1 34 = nI (k / 32 % 32)) (h35 : oM.1 35 = nI (k / 1024 % 32)) : ∃ oM', f_X7_vote oM = some oM' ∧ kK oM oM' ∧ QM oB (l ++ [t]) oM' := by
  have hcnt : (bal oB l).count k ≤ (bal oB l).length := List.count_le_length
  -- the new row of codes
  have fin : ∀ (p M' : Nat) (oM' : St), (p = M ∧ M' = M + 1 ∨ p < M ∧ M' = M) → (∀ j, j < p → E j % 32768 ≠ k) → (p < M → E p % 32768 = k) → oM'.1 36 = nI M' → oM'.1 37 = oM.1 37 → oM'.1 38 = oM.1 38 → eT oM' M' (fun i => if i = p then enc ((bal oB l).count k + 1) k else E i) → QM oB (l ++ [t]) oM' := by
    intro p M' oM' hp hn hy g36 g37 g38 gE
    have other : ∀ i, i < M → i ≠ p → E i % 32768 ≠ k := by
      intro i hi hip
      rcases Nat.lt_or_ge i p with q | q
      · exact hn i q
      · have hpM : p < M := by omega
        have := p3 p i (by omega) hi
        rw [hy hpM] at this
        exact fun z => this z.symm
    have cnt : ∀ q, (bal oB (l ++ [t])).count q = (bal oB l).count q + if k = q then 1 else 0 := by
      intro q
      rw [hb, List.count_append, List.count_singleton]
      congr 1
      by_cases e : k = q
      · rw [if_pos e, if_pos (by simp [e])]
      · rw [if_neg e, if_neg (by simp [e])]
    refine ⟨M', _, g36, ?_, g38.trans h38, ?_, gE, ?_, ?_, ?_⟩
    · rw [g37, h37, hb, List.length_append]; rfl
    · rw [hb, List.length_append]
      show M' ≤ (bal oB l).length + 1
      omega
    · intro i hi
      by_cases e : i = p
      · refine ⟨k, by rw [hb]; simp, ?_⟩
        rw [if_pos e, cnt, if_pos rfl]
      · have hiM : i < M := by omega
        obtain ⟨q, hq, eq⟩ := p1 i hiM
        refine ⟨q, by rw [hb]; simp [hq], ?_⟩
        have hne : k ≠ q := by
          intro z
          have := other i hiM e
          rw [eq, enc_mod (hlt q hq)] at this
          exact this z.symm
        rw [if_neg e, cnt, if_neg hne]
        exact eq
    · intro q hq
      by_cases e : k = q
      · refine ⟨p, by omega, ?_⟩
        rw [if_pos rfl, cnt, if_pos e, e]
      · have hq2 : q ∈ bal oB l := by
          rw [hb, List.mem_append] at hq
          rcases hq with z | z
          · exact z
          · exact absurd (by simpa using z : q = k).symm e
        obtain ⟨i, hi, ei⟩ := p2 q hq2
        refine ⟨i, by omega, ?_⟩
        have hip : i ≠ p := by
          intro z
          have hpM : p < M := by omega
          have := hy hpM
          rw [← z, ei, enc_mod (hlt q hq2)] at this
          exact e this.symm
        rw [if_neg hip, cnt, if_neg e]
        exact ei
    · intro i j hij hj
      by_cases e : i = p
      · have hj2 : j < M := by omega
        rw [if_pos e, if_neg (show ¬ j = p by omega), enc_mod hk]
        exact fun z => other j hj2 (by omega) z.symm
      · rw [if_neg e]
        by_cases e2 : j = p
        · rw [if_pos e2, enc_mod hk]
          exact other i (by omega) e
        · rw [if_neg e2]
          exact p3 i j hij (by omega)
  unfold f_X7_vote
  obtain ⟨p, g1, g2, g3, g4⟩ := find_m (by omega) h36 hE hk h33 h34 h35 (fun (v11 : Int32) =>
      if v11 = (oM.1 36) then
        bn1 (aw 364 oM 39 v11 (oM.1 33)) fun oM18 =>
        bn1 (aw 364 oM18 40 v11 (oM18.1 34)) fun oM20 =>
        bn1 (aw 364 oM20 41 v11 (oM20.1 35)) fun oM22 =>
        bn1 (aw 364 oM22 42 v11 0) fun oM24 =>
        bn1 (ag 364 (oM24.2.2 42) v11) fun x25 =>
        bn1 (aw 364 (sI oM24 36 ((oM24.1 36) + 1)) 42 v11 (x25 + 1)) fun oM28 =>
        some (oM28)
      else
        bn1 (ag 364 (oM.2.2 42) v11) fun x13 =>
        bn1 (aw 364 oM 42 v11 (x13 + 1)) fun oM16 =>
        some (oM16)) fu 0 (by unfold fu; omega) (Nat.zero_le _) (fun j hj => by omega)
  have G : ∃ oM', (if nI p = oM.1 36 then
        bn1 (aw 364 oM 39 (nI p) (oM.1 33)) fun oM18 =>
        bn1 (aw 364 oM18 40 (nI p) (oM18.1 34)) fun oM20 =>
        bn1 (aw 364 oM20 41 (nI p) (oM20.1 35)) fun oM22 =>
        bn1 (aw 364 oM22 42 (nI p) 0) fun oM24 =>
        bn1 (ag 364 (oM24.2.2 42) (nI p)) fun x25 =>
        bn1 (aw 364 (sI oM24 36 ((oM24.1 36) + 1)) 42 (nI p) (x25 + 1)) fun oM28 =>
        some (oM28)
      else
        bn1 (ag 364 (oM.2.2 42) (nI p)) fun x13 =>
        bn1 (aw 364 oM 42 (nI p) (x13 + 1)) fun oM16 =>
        some (oM16)) = some oM' ∧ kK oM oM' ∧ QM oB (l ++ [t]) oM' := by
    rw [h36]
    by_cases hp : p = M
    · subst hp
      rw [if_pos rfl]
      simp only [aw_n (show p < 364 by omega) (by decide : 364 < 2 ^ 31), ag_n (show p < 364 by omega) (by decide : 364 < 2 ^ 31), bn1_s]
      refine ⟨_, rfl, ?_, ?_⟩
      · exact (((((((kK.rf oM).r _ (by omega)).r _ (by omega)).r _ (by omega)).r _ (by omega)).i _ (by omega)).r _ (by omega))
      · refine fin p (p + 1) _ (Or.inl ⟨rfl, rfl⟩) g3 g4 ?_ rfl rfl ?_
        · show oM.1 36 + 1 = _
          rw [h36, nI_1]
        · intro i hi
          obtain ⟨d1, d2, d3⟩ := enc_3 (c := (bal oB l).count k + 1) hk
          show upd (oM.2.2 39) p (oM.1 33) i = _ ∧ upd (oM.2.2 40) p (oM.1 34) i = _ ∧ upd (oM.2.2 41) p (oM.1 35) i = _ ∧ upd (upd (oM.2.2 42) p 0) p (upd (oM.2.2 42) p 0 p + 1) i = _ ∧ _
          simp only [upd_e]
          by_cases e : i = p
          · have h0 : (bal oB l).count k = 0 := by
              rcases Nat.eq_zero_or_pos ((bal oB l).count k) with q | q
              · exact q
              · obtain ⟨j, hj, ej⟩ := p2 k (List.count_pos_iff.mp q)
                have := g3 j hj
                rw [ej, enc_mod hk] at this
                exact absurd rfl this
            simp only [if_pos e, if_true]
            rw [d1, d2, d3, enc_div hk, h0, h33, h34, h35]
            exact ⟨rfl, rfl, rfl, rfl, by omega⟩
          · simp only [if_neg e]
            exact hE i (by omega)
    · have hpM : p < M := by omega
      rw [if_neg (fun z => hp ((nI_eq (by omega) (by omega)).mp z))]
      simp only [aw_n (show p < 364 by omega) (by decide : 364 < 2 ^ 31), ag_n (show p < 364 by omega) (by decide : 364 < 2 ^ 31), bn1_s]
      refine ⟨_, rfl, ?_, ?_⟩
      · exact ((kK.rf oM).r _ (by omega))
      · refine fin p M _ (Or.inr ⟨hpM, rfl⟩) g3 g4 h36 rfl rfl ?_
        intro i hi
        obtain ⟨d1, d2, d3⟩ := enc_3 (c := (bal oB l).count k + 1) hk
        show oM.2.2 39 i = _ ∧ oM.2.2 40 i = _ ∧ oM.2.2 41 i = _ ∧ upd (oM.2.2 42) p (oM.2.2 42 p + 1) i = _ ∧ _
        simp only [upd_e]
        obtain ⟨e1, e2, e3, e4, e5⟩ := hE i hi
        by_cases e : i = p
        · obtain ⟨q, hq, eq⟩ := p1 p hpM
          have hqk : q = k := by
            have := g4 hpM
            rw [eq, enc_mod (hlt q hq)] at this
            exact this
          subst hqk
          simp only [if_pos e]
          rw [d1, d2, d3, enc_div hk]
          rw [← e] at eq ⊢
          rw [e1, e2, e3, e4, eq]
          obtain ⟨c1, c2, c3⟩ := enc_3 (c := (bal oB l).count q) hk
          rw [c1, c2, c3, enc_div hk, nI_1]
          refine ⟨rfl, rfl, rfl, ?_, by omega⟩
          congr 1
          omega
        · simp only [if_neg e]
          exact ⟨e1, e2, e3, e4, e5⟩
  obtain ⟨oM', w1, w2, w3⟩ := G
  exact ⟨oM', g1.trans w1, w2, w3⟩
