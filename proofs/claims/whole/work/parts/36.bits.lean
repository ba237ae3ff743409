/-! ===== nI under and, xor, >>>, one bit, 65535 ===== -/
theorem nx_and (a b : Nat) : nI a &&& nI b = nI (a &&& b) := by
  apply Int32.toBitVec_inj.1
  show BitVec.ofNat 32 a &&& BitVec.ofNat 32 b = BitVec.ofNat 32 (a &&& b)
  apply BitVec.eq_of_getLsbD_eq
  intro i hi
  simp [hi]
theorem nx_xor (a b : Nat) : nI a ^^^ nI b = nI (a ^^^ b) := by
  apply Int32.toBitVec_inj.1
  show BitVec.ofNat 32 a ^^^ BitVec.ofNat 32 b = BitVec.ofNat 32 (a ^^^ b)
  apply BitVec.eq_of_getLsbD_eq
  intro i hi
  simp [hi]
theorem nx_cnt : ∀ j : Fin 32, (UInt32.ofNat j.val &&& Int32.toUInt32 31).toNat % 32 = j.val := by decide +kernel
theorem nx_ush {k j : Nat} (hk : k < 65536) (hj : j < 32) : ((nI k).toUInt32 >>> ((nI j).toUInt32 &&& Int32.toUInt32 31)).toInt32 = nI (k >>> j) := by
  have hs : k >>> j ≤ k := by
    rw [Nat.shiftRight_eq_div_pow]
    exact Nat.div_le_self _ _
  have e2 : UInt32.ofNat k >>> (UInt32.ofNat j &&& Int32.toUInt32 31) = UInt32.ofNat (k >>> j) := by
    apply UInt32.toNat_inj.1
    have h1 : (UInt32.ofNat k).toNat = k := Nat.mod_eq_of_lt (by omega)
    have h2 : (UInt32.ofNat (k >>> j)).toNat = k >>> j := Nat.mod_eq_of_lt (by omega)
    rw [UInt32.toNat_shiftRight, nx_cnt ⟨j, hj⟩, h1, h2]
  show (UInt32.ofNat k >>> (UInt32.ofNat j &&& Int32.toUInt32 31)).toInt32 = _
  rw [e2]
  rfl
theorem b_1 : ∀ i, i < 32 → bt 1 i = decide (i = 0) := by decide +kernel
theorem b_sh1 {j i : Nat} (hj : j < 32) (hi : i < 32) : bt ((1 : Int32) <<< (nI j &&& 31)) i = decide (i = j) := by
  rw [b_shl j hj 1 hi, b_1 (i - j) (by omega)]
  by_cases h : i = j
  · subst h; simp
  · rw [decide_eq_false h]
    by_cases h2 : j ≤ i
    · rw [decide_eq_true h2, decide_eq_false (by omega)]; rfl
    · rw [decide_eq_false h2]; rfl
theorem b_nI (k : Nat) {i : Nat} (hi : i < 32) : bt (nI k) i = k.testBit i := by
  show (BitVec.ofNat 32 k).getLsbD i = _
  rw [BitVec.getLsbD_ofNat, decide_eq_true hi, Bool.true_and]
theorem b_test (v : Int32) {j : Nat} (hj : j < 32) : (v >>> (nI j &&& 31)) &&& 1 = nI (if bt v j then 1 else 0) := by
  apply b_ext
  intro i hi
  rw [b_and, b_1 i hi, b_sshr j hj v hi]
  by_cases h : i = 0
  · subst h
    rw [if_pos (show j + 0 < 32 by omega), decide_eq_true rfl, Bool.and_true]
    show bt v j = _
    cases bt v j <;> rfl
  · rw [decide_eq_false h, Bool.and_false, b_nI _ hi]
    obtain ⟨i, rfl⟩ : ∃ i', i = i' + 1 := ⟨i - 1, by omega⟩
    cases bt v j
    · exact (Nat.zero_testBit _).symm
    · show false = (1 : Nat).testBit (i + 1)
      rw [Nat.testBit_succ]
      exact (Nat.zero_testBit _).symm
theorem b_is (v : Int32) {j : Nat} (hj : j < 32) : (v >>> (nI j &&& 31)) &&& 1 = 1 ↔ bt v j = true := by
  rw [b_test v hj]
  cases bt v j
  · exact ⟨fun h => absurd h (by decide), fun h => by cases h⟩
  · exact ⟨fun _ => rfl, fun _ => rfl⟩
theorem b_mask : ∀ n, n < 15 → ∀ i, i < 32 → bt (((1 : Int32) <<< (nI n &&& 31)) - 1) i = decide (i < n) := by decide +kernel
/-! sets out of a test -/
def bs (p : Nat → Bool) : Nat → Int32
  | 0 => 0
  | k + 1 => if p k then bs p k ||| ((1 : Int32) <<< (nI k &&& 31)) else bs p k
def os (q : Nat → Bool) (f : Nat → Nat) : Nat → Int32
  | 0 => 0
  | k + 1 => if q k then os q f k ||| ((1 : Int32) <<< (nI (f k) &&& 31)) else os q f k
theorem bt_bs (p : Nat → Bool) : ∀ n, n ≤ 32 → ∀ i, i < 32 → bt (bs p n) i = (decide (i < n) && p i)
  | 0, _, i, _ => by show bt 0 i = _; rw [b_0, decide_eq_false (by omega)]; rfl
  | n + 1, h, i, hi => by
    have ih := bt_bs p n (by omega) i hi
    unfold bs
    by_cases hp : p n = true
    · rw [if_pos hp, b_or, ih, b_sh1 (by omega) hi]
      by_cases h1 : i = n
      · subst h1; simp [hp]
      · by_cases h2 : i < n
        · rw [decide_eq_true h2, decide_eq_false h1, decide_eq_true (show i < n + 1 by omega), Bool.or_false]
        · rw [decide_eq_false h2, decide_eq_false h1, decide_eq_false (show ¬ i < n + 1 by omega)]; rfl
    · rw [if_neg hp, ih]
      by_cases h1 : i = n
      · subst h1
        rw [Bool.not_eq_true] at hp
        rw [hp, Bool.and_false, Bool.and_false]
      · by_cases h2 : i < n
        · rw [decide_eq_true h2, decide_eq_true (show i < n + 1 by omega)]
        · rw [decide_eq_false h2, decide_eq_false (show ¬ i < n + 1 by omega)]
def s14 (v : Int32) : Prop := ∀ i, 14 ≤ i → i < 32 → bt v i = false
theorem s14_bs (p : Nat → Bool) {n : Nat} (h : n ≤ 14) : s14 (bs p n) := fun i h1 h2 => by
  rw [bt_bs p n (by omega) i h2, decide_eq_false (by omega)]
  rfl
theorem s14_and {v : Int32} (h : s14 v) (w : Int32) : s14 (v &&& w) := fun i h1 h2 => by
  rw [b_and, h i h1 h2]
  rfl
theorem s14_os (q : Nat → Bool) (f : Nat → Nat) (hf : ∀ j, f j < 14) : ∀ n, s14 (os q f n)
  | 0 => fun i _ _ => b_0 i
  | n + 1 => fun i h1 h2 => by
    have ih := s14_os q f hf n i h1 h2
    unfold os
    split
    · rw [b_or, ih, b_sh1 (by have := hf n; omega) h2, decide_eq_false (by have := hf n; omega)]
      rfl
    · exact ih
theorem os_cong {q q2 : Nat → Bool} {f f2 : Nat → Nat} : ∀ {n : Nat}, (∀ j, j < n → q j = q2 j) → (∀ j, j < n → f j = f2 j) → os q f n = os q2 f2 n
  | 0, _, _ => rfl
  | n + 1, h, h2 => by
    unfold os
    rw [os_cong (fun j hj => h j (by omega)) (fun j hj => h2 j (by omega)), h n (by omega), h2 n (by omega)]
theorem bs_cong {q q2 : Nat → Bool} : ∀ {n : Nat}, (∀ j, j < n → q j = q2 j) → bs q n = bs q2 n
  | 0, _ => rfl
  | n + 1, h => by
    unfold bs
    rw [bs_cong (fun j hj => h j (by omega)), h n (by omega)]
/-! how many bits -/
def pc (v : Int32) : Nat := fb_ct (bt v) 14
theorem pc_le (v : Int32) : pc v ≤ 14 := fb_ct_le _ _
theorem nI_or0 (v : Int32) : v ||| 0 = v := by
  apply b_ext
  intro i _
  rw [b_or, b_0, Bool.or_false]
theorem size_m (v : Int32) : f_X7_size v = some (nI (pc v)) := by
  obtain ⟨s, h1, h2⟩ := lpn (fun fuel k (s : Int32) => f_X7_size_L4 v fuel s (nI k)) (fun s => some s) 14 (fun k s => s = nI (fb_ct (bt v) k)) (by
    intro fuel k s hk hs
    refine ⟨nI (fb_ct (bt v) (k + 1)), ?_, rfl⟩
    show f_X7_size_L4 v (fuel + 1) s (nI k) = f_X7_size_L4 v fuel (nI (fb_ct (bt v) (k + 1))) (nI (k + 1))
    rw [f_X7_size_L4_s, if_neg (show ¬ (14 : Int32) ≤ nI k from nI_ge (b := 14) hk (by decide)), bn1_s, b_test v (by omega), hs, nI_add, nI_1]
    rfl) (by
    intro fuel s hs
    show f_X7_size_L4 v (fuel + 1) s (nI 14) = _
    rw [f_X7_size_L4_s, if_pos (by decide)]) fu 0 0 (by omega) (by unfold fu; omega) rfl
  rw [h2] at h1
  exact h1
def swN (k : Nat) : Nat :=
  let y1 := k - ((k >>> 1) &&& 1431655765)
  let y3 := (y1 &&& 858993459) + ((y1 >>> 2) &&& 858993459)
  let y5 := (y3 + (y3 >>> 4)) &&& 252645135
  let y7 := y5 + (y5 >>> 8)
  let y9 := y7 + (y7 >>> 16)
  y9 &&& 63
theorem swN_pc : ∀ a, a < 128 → ∀ b, b < 128 → swN (a * 128 + b) = fb_ct (fun i => (a * 128 + b).testBit i) 14 := by decide +kernel
theorem sr_le (a b : Nat) : a >>> b ≤ a := by
  rw [Nat.shiftRight_eq_div_pow]
  exact Nat.div_le_self _ _
theorem bc_n {k : Nat} (hk : k < 16384) : f_J6_bitCount_0f7a4 (nI k) = some (nI (swN k)) := by
  unfold f_J6_bitCount_0f7a4 swN
  simp only [bn1_s]
  have e1 : ((nI k).toUInt32 >>> ((1 : Int32).toUInt32 &&& Int32.toUInt32 31)).toInt32 = nI (k >>> 1) := nx_ush (j := 1) (by omega) (by omega)
  have l1 : (k >>> 1) &&& 1431655765 ≤ k := Nat.le_trans Nat.and_le_left (sr_le k 1)
  have e2 : nI k - (nI (k >>> 1) &&& (1431655765 : Int32)) = nI (k - ((k >>> 1) &&& 1431655765)) := by
    rw [show (1431655765 : Int32) = nI 1431655765 from rfl, nx_and, nI_sub l1]
  rw [e1, e2]
  have g1 : k - ((k >>> 1) &&& 1431655765) ≤ k := Nat.sub_le _ _
  generalize k - ((k >>> 1) &&& 1431655765) = y1 at g1 ⊢
  have e3 : ((nI y1).toUInt32 >>> ((2 : Int32).toUInt32 &&& Int32.toUInt32 31)).toInt32 = nI (y1 >>> 2) := nx_ush (j := 2) (by omega) (by omega)
  rw [e3, show (858993459 : Int32) = nI 858993459 from rfl, nx_and, nx_and, nI_add]
  have g3 : (y1 &&& 858993459) + ((y1 >>> 2) &&& 858993459) ≤ 32768 := by
    have a1 : y1 &&& 858993459 ≤ y1 := Nat.and_le_left
    have a2 : (y1 >>> 2) &&& 858993459 ≤ y1 := Nat.le_trans Nat.and_le_left (sr_le _ _)
    omega
  generalize (y1 &&& 858993459) + ((y1 >>> 2) &&& 858993459) = y3 at g3 ⊢
  have e5 : ((nI y3).toUInt32 >>> ((4 : Int32).toUInt32 &&& Int32.toUInt32 31)).toInt32 = nI (y3 >>> 4) := nx_ush (j := 4) (by omega) (by omega)
  rw [e5, nI_add, show (252645135 : Int32) = nI 252645135 from rfl, nx_and]
  have g5 : (y3 + (y3 >>> 4)) &&& 252645135 < 65536 := by
    have a2 : y3 >>> 4 * 16 ≤ y3 := by rw [Nat.shiftRight_eq_div_pow]; omega
    have a1 : (y3 + (y3 >>> 4)) &&& 252645135 ≤ y3 + (y3 >>> 4) := Nat.and_le_left
    have a3 : y3 >>> 4 ≤ 2048 := by rw [Nat.shiftRight_eq_div_pow]; omega
    omega
  generalize (y3 + (y3 >>> 4)) &&& 252645135 = y5 at g5 ⊢
  have e7 : ((nI y5).toUInt32 >>> ((8 : Int32).toUInt32 &&& Int32.toUInt32 31)).toInt32 = nI (y5 >>> 8) := nx_ush (j := 8) (by omega) (by omega)
  rw [e7, nI_add]
  have e9 : ((nI (y5 + y5 >>> 8)).toUInt32 >>> ((16 : Int32).toUInt32 &&& Int32.toUInt32 31)).toInt32 = nI ((y5 + y5 >>> 8) >>> 16) := by
    have a3 : y5 >>> 8 ≤ 256 := by rw [Nat.shiftRight_eq_div_pow]; omega
    have hb : y5 + y5 >>> 8 < 131072 := by omega
    generalize y5 + y5 >>> 8 = z at hb ⊢
    apply b_ext
    intro i hi
    rw [show (16 : Int32) = nI 16 from rfl, b_ushr 16 (by omega), b_nI _ hi, Nat.testBit_shiftRight]
    rcases Nat.lt_or_ge (16 + i) 32 with q | q
    · rw [b_nI _ q]
    · rw [b_big q, Nat.testBit_lt_two_pow (Nat.lt_of_lt_of_le hb (Nat.le_trans (show 131072 ≤ 2 ^ 32 by decide) (Nat.pow_le_pow_right (by omega) q)))]
  rw [e9, nI_add, show (63 : Int32) = nI 63 from rfl, nx_and]
theorem of14 {v : Int32} (h : s14 v) : ∃ k, k < 16384 ∧ v = nI k := by
  refine ⟨v.toBitVec.toNat, ?_, ?_⟩
  · have := Nat.lt_pow_two_of_testBit (n := 14) v.toBitVec.toNat (fun i hi => by
      rcases Nat.lt_or_ge i 32 with q | q
      · exact h i hi q
      · exact Nat.testBit_lt_two_pow (Nat.lt_of_lt_of_le v.toBitVec.isLt (Nat.pow_le_pow_right (by omega) q)))
    exact this
  · apply Int32.toBitVec_inj.mp
    show v.toBitVec = BitVec.ofNat 32 v.toBitVec.toNat
    rw [BitVec.ofNat_toNat, BitVec.setWidth_eq]
theorem bc_c {v : Int32} (h : s14 v) : f_J6_bitCount_0f7a4 v = some (nI (pc v)) := by
  obtain ⟨k, hk, rfl⟩ := of14 h
  rw [bc_n hk]
  have e := swN_pc (k / 128) (by omega) (k % 128) (by omega)
  have ek : k / 128 * 128 + k % 128 = k := by omega
  rw [ek] at e
  rw [e]
  unfold pc
  rw [fb_ct_cong (q := bt (nI k)) (fun i hi => (b_nI k (by omega)).symm)]
