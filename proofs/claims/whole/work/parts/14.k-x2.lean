abbrev rmX2_put : Room := { frames := 0, cells := 0, slots := 0, locals := 0 }
theorem hd_X2_put : yX2_put.cls = RX2 ∧ yX2_put.cls ≠ "java/lang/invoke/MethodHandle" ∧ yX2_put.cls ≠ "java/lang/invoke/VarHandle" ∧ (parseMethodDescriptor yX2_put.desc).map (fun d => d.parameters.length) = some 1 := by decide +kernel
set_option maxHeartbeats 4000000 in
set_option maxRecDepth 100000 in
theorem k_X2_put (l : Launch) (D : va_G) (cA : ClassId) (tx ty : Nat) (o : Nat → Nat) (oP : St) (oD : St) (a1 : Int32) (oP' : St) (hf : f_X2_put oP a1 = some (oP')) : Mv l yX2_put wsX2_put rmX2_put D cA (z_X tx ty) [.ref (o 1), .int a1] (wX2 o cA oP oD) (wX2 o cA oP' oD) := by
  refine Mv.of (cc := cX2_put) (maxL := 2) (by decide) rfl (Nat.le_of_ble_eq_true rfl) ?_
  intro p e s m below meth c A Q hx hb hml hown hts hK hA hZ hret ls hl hw
  replace hown : s.vm.findClass RX2 = some m.cls := hown
  have hl : lv_has ls 2 [(0, .ref (o 1)), (1, .int a1)] := hl
  have hZo := z_X_ok tx ty
  have hi2 : ∀ w ∈ wsX20, w ∈ wsX2_put := fun w h => List.mem_cons_of_mem _ (List.mem_append_right _ h)
  have q0 := hts (.fieldLink RX2 22 "ArcRings$Page" "length" "I") (by decide +kernel)
  have q1 := hts (.fieldLink RX2 9 "ArcRings$Page" "letters" "[I") (by decide +kernel)
  unfold f_X2_put at hf
  obtain ⟨H, hH⟩ : ∃ H, H = s.heap := ⟨_, rfl⟩
  obtain ⟨locs, hlc⟩ : ∃ locs : List Loc, locs = [] := ⟨_, rfl⟩
  have hw : Wd D A s.heap H locs (wX2 o cA oP oD) := by rw [hH, hlc]; exact hw
  have goal : W p l e rmX2_put s m ([.ref (o 1), .int a1] : List Value).toArray below meth c H locs 0 0 Q (F0 m 0 ls []) := by
    clear hH hlc
    refine lv_aload_n hx hb dX2_put_0 rfl (lv_at hl 0 rfl) ?_
    refine w_get hx hb hts hi2 hown hK hw 0 rfl rfl 1 (by decide) q0 rfl (v := .int (oP.1 1)) rfl dX2_put_1 ?_
    refine lv_bipush (v := 50) hx hb dX2_put_4 (by decide) ?_
    refine lv_icmp_ge (tgt := 29) hx hb dX2_put_6 (by decide) (fun c1 => ?_) (fun c1 => ?_)
    · have hf := if_t c1 hf
      have e0_ := sm1 hf
      exact hret _ _ _ _ (by rw [← e0_]; exact hw) dX2_put_29
    · have hf := if_f c1 hf
      refine lv_aload_n hx hb dX2_put_9 rfl (lv_at hl 0 rfl) ?_
      refine w_get hx hb hts hi2 hown hK hw 0 rfl rfl 0 (by decide) q1 rfl (v := .ref (o 2)) rfl dX2_put_10 ?_
      refine lv_aload_n hx hb dX2_put_13 rfl (lv_at hl 0 rfl) ?_
      refine w_get hx hb hts hi2 hown hK hw 0 rfl rfl 1 (by decide) q0 rfl (v := .int (oP.1 1)) rfl dX2_put_14 ?_
      refine lv_iload_n hx hb dX2_put_17 rfl (lv_at hl 1 rfl) ?_
      obtain ⟨oP3, g2, hf⟩ := bn1_e hf
      refine w_aws hx hb hK hw 1 rfl g2 (fun z => (wX2 o cA z oD)) (fun _ => rfl) dX2_put_18 (fun H locs hw => ?_)
      refine lv_aload_n hx hb dX2_put_19 rfl (lv_at hl 0 rfl) ?_
      refine lv_dup hx hb dX2_put_20 rfl ?_
      refine w_get hx hb hts hi2 hown hK hw 0 rfl rfl 1 (by decide) q0 rfl (v := .int (oP3.1 1)) rfl dX2_put_21 ?_
      refine lv_iconst (v := 1) hx hb dX2_put_24 (by decide) ?_
      refine lv_iadd hx hb dX2_put_25 ?_
      refine w_put (ws' := (wX2 o cA ((sI oP3 1 ((oP3.1 1) + 1))) oD)) hx hb hts hi2 tyX2 tyX2_ok nmX2 hown hK hw 0 rfl rfl 1 (by decide) q0 rfl rfl rfl rfl (Nat.le_of_ble_eq_true rfl) rfl dX2_put_26 (fun H locs hw => ?_)
      have e0_ := sm1 hf
      exact hret _ _ _ _ (by rw [← e0_]; exact hw) dX2_put_29
  rw [hH, hlc] at goal
  exact goal
abbrev rmX2_takesFirstDigit : Room := { frames := 0, cells := 0, slots := 0, locals := 0 }
theorem hd_X2_takesFirstDigit : yX2_takesFirstDigit.cls = RX2 ∧ yX2_takesFirstDigit.cls ≠ "java/lang/invoke/MethodHandle" ∧ yX2_takesFirstDigit.cls ≠ "java/lang/invoke/VarHandle" ∧ (parseMethodDescriptor yX2_takesFirstDigit.desc).map (fun d => d.parameters.length) = some 1 := by decide +kernel
set_option maxHeartbeats 4000000 in
set_option maxRecDepth 100000 in
theorem k_X2_takesFirstDigit (l : Launch) (D : va_G) (cA : ClassId) (tx ty : Nat) (o : Nat → Nat) (oP : St) (oD : St) (a1 : Int32) (r : Int32) (oP' : St) (hf : f_X2_takesFirstDigit oP a1 = some (r, oP')) : Mi l yX2_takesFirstDigit wsX2_takesFirstDigit rmX2_takesFirstDigit D cA (z_X tx ty) [.ref (o 1), .int a1] (wX2 o cA oP oD) r (wX2 o cA oP' oD) := by
  refine Mi.of (cc := cX2_takesFirstDigit) (maxL := 2) (ret := (some .boolean)) (plainFor_of_name (by decide)) rfl (Nat.le_of_ble_eq_true rfl) (Or.inr rfl) ?_
  intro p e s m below meth c A Q hx hb hml hown hts hK hA hZ hret ls hl hw
  replace hown : s.vm.findClass RX2 = some m.cls := hown
  have hl : lv_has ls 2 [(0, .ref (o 1)), (1, .int a1)] := hl
  have hZo := z_X_ok tx ty
  have hi2 : ∀ w ∈ wsX20, w ∈ wsX2_takesFirstDigit := fun w h => List.mem_cons_of_mem _ (List.mem_append_right _ h)
  have q0 := hts (.fieldLink RX2 62 "ArcRings$Page" "side" "I") (by decide +kernel)
  have q1 := hts (.fieldLink RX2 30 "ArcRings$Page" "due" "I") (by decide +kernel)
  unfold f_X2_takesFirstDigit at hf
  obtain ⟨H, hH⟩ : ∃ H, H = s.heap := ⟨_, rfl⟩
  obtain ⟨locs, hlc⟩ : ∃ locs : List Loc, locs = [] := ⟨_, rfl⟩
  have hw : Wd D A s.heap H locs (wX2 o cA oP oD) := by rw [hH, hlc]; exact hw
  have goal : W p l e rmX2_takesFirstDigit s m ([.ref (o 1), .int a1] : List Value).toArray below meth c H locs 0 0 Q (F0 m 0 ls []) := by
    clear hH hlc
    refine lv_iload_n hx hb dX2_takesFirstDigit_0 rfl (lv_at hl 1 rfl) ?_
    refine lv_iconst (v := 1) hx hb dX2_takesFirstDigit_1 (by decide) ?_
    refine lv_icmp_lt (tgt := 11) hx hb dX2_takesFirstDigit_2 (by decide) (fun c1 => ?_) (fun c1 => ?_)
    · have hf := if_t c1 hf
      refine lv_iconst (v := 0) hx hb dX2_takesFirstDigit_11 (by decide) ?_
      obtain ⟨e0_, e1_⟩ := sm2 hf
      exact hret _ _ _ _ _ (by rw [← e1_]; exact hw) e0_ (Or.inr (Or.inl rfl)) dX2_takesFirstDigit_12
    · have hf := if_f c1 hf
      refine lv_iload_n hx hb dX2_takesFirstDigit_5 rfl (lv_at hl 1 rfl) ?_
      refine lv_bipush (v := 9) hx hb dX2_takesFirstDigit_6 (by decide) ?_
      refine lv_icmp_le (tgt := 13) hx hb dX2_takesFirstDigit_8 (by decide) (fun c2 => ?_) (fun c2 => ?_)
      · have hf := if_t c2 hf
        refine lv_aload_n hx hb dX2_takesFirstDigit_13 rfl (lv_at hl 0 rfl) ?_
        refine lv_iload_n hx hb dX2_takesFirstDigit_14 rfl (lv_at hl 1 rfl) ?_
        refine w_put (ws' := (wX2 o cA ((sI oP 4 a1)) oD)) hx hb hts hi2 tyX2 tyX2_ok nmX2 hown hK hw 0 rfl rfl 4 (by decide) q0 rfl rfl rfl rfl (Nat.le_of_ble_eq_true rfl) rfl dX2_takesFirstDigit_15 (fun H locs hw => ?_)
        refine lv_aload_n hx hb dX2_takesFirstDigit_18 rfl (lv_at hl 0 rfl) ?_
        refine lv_iload_n hx hb dX2_takesFirstDigit_19 rfl (lv_at hl 1 rfl) ?_
        refine lv_iconst (v := 4) hx hb dX2_takesFirstDigit_20 (by decide) ?_
        refine lv_icmp_ge (tgt := 28) hx hb dX2_takesFirstDigit_21 (by decide) (fun c3 => ?_) (fun c3 => ?_)
        · have hf := if_t c3 hf
          refine lv_iconst (v := 2) hx hb dX2_takesFirstDigit_28 (by decide) ?_
          refine w_put (ws' := (wX2 o cA ((sI (sI oP 4 a1) 3 2)) oD)) hx hb hts hi2 tyX2 tyX2_ok nmX2 hown hK hw 0 rfl rfl 3 (by decide) q1 rfl rfl rfl rfl (Nat.le_of_ble_eq_true rfl) rfl dX2_takesFirstDigit_29 (fun H locs hw => ?_)
          refine lv_iconst (v := 1) hx hb dX2_takesFirstDigit_32 (by decide) ?_
          obtain ⟨e0_, e1_⟩ := sm2 hf
          exact hret _ _ _ _ _ (by rw [← e1_]; exact hw) e0_ (Or.inr (Or.inr rfl)) dX2_takesFirstDigit_33
        · have hf := if_f c3 hf
          refine lv_iconst (v := 1) hx hb dX2_takesFirstDigit_24 (by decide) ?_
          refine lv_goto (tgt := 29) hx hb dX2_takesFirstDigit_25 (by decide) ?_
          refine w_put (ws' := (wX2 o cA ((sI (sI oP 4 a1) 3 1)) oD)) hx hb hts hi2 tyX2 tyX2_ok nmX2 hown hK hw 0 rfl rfl 3 (by decide) q1 rfl rfl rfl rfl (Nat.le_of_ble_eq_true rfl) rfl dX2_takesFirstDigit_29 (fun H locs hw => ?_)
          refine lv_iconst (v := 1) hx hb dX2_takesFirstDigit_32 (by decide) ?_
          obtain ⟨e0_, e1_⟩ := sm2 hf
          exact hret _ _ _ _ _ (by rw [← e1_]; exact hw) e0_ (Or.inr (Or.inr rfl)) dX2_takesFirstDigit_33
      · have hf := if_f c2 hf
        refine lv_iconst (v := 0) hx hb dX2_takesFirstDigit_11 (by decide) ?_
        obtain ⟨e0_, e1_⟩ := sm2 hf
        exact hret _ _ _ _ _ (by rw [← e1_]; exact hw) e0_ (Or.inr (Or.inl rfl)) dX2_takesFirstDigit_12
  rw [hH, hlc] at goal
  exact goal
abbrev rmX2_takesSecondDigit : Room := { frames := 0, cells := 0, slots := 0, locals := 0 }
theorem hd_X2_takesSecondDigit : yX2_takesSecondDigit.cls = RX2 ∧ yX2_takesSecondDigit.cls ≠ "java/lang/invoke/MethodHandle" ∧ yX2_takesSecondDigit.cls ≠ "java/lang/invoke/VarHandle" ∧ (parseMethodDescriptor yX2_takesSecondDigit.desc).map (fun d => d.parameters.length) = some 1 := by decide +kernel
set_option maxHeartbeats 4000000 in
set_option maxRecDepth 100000 in
theorem k_X2_takesSecondDigit (l : Launch) (D : va_G) (cA : ClassId) (tx ty : Nat) (o : Nat → Nat) (oP : St) (oD : St) (a1 : Int32) (r : Int32) (oP' : St) (hf : f_X2_takesSecondDigit oP a1 = some (r, oP')) : Mi l yX2_takesSecondDigit wsX2_takesSecondDigit rmX2_takesSecondDigit D cA (z_X tx ty) [.ref (o 1), .int a1] (wX2 o cA oP oD) r (wX2 o cA oP' oD) := by
  refine Mi.of (cc := cX2_takesSecondDigit) (maxL := 2) (ret := (some .boolean)) (plainFor_of_name (by decide)) rfl (Nat.le_of_ble_eq_true rfl) (Or.inr rfl) ?_
  intro p e s m below meth c A Q hx hb hml hown hts hK hA hZ hret ls hl hw
  replace hown : s.vm.findClass RX2 = some m.cls := hown
  have hl : lv_has ls 2 [(0, .ref (o 1)), (1, .int a1)] := hl
  have hZo := z_X_ok tx ty
  have hi2 : ∀ w ∈ wsX20, w ∈ wsX2_takesSecondDigit := fun w h => List.mem_cons_of_mem _ (List.mem_append_right _ h)
  have q0 := hts (.fieldLink RX2 62 "ArcRings$Page" "side" "I") (by decide +kernel)
  have q1 := hts (.fieldLink RX2 30 "ArcRings$Page" "due" "I") (by decide +kernel)
  unfold f_X2_takesSecondDigit at hf
  obtain ⟨H, hH⟩ : ∃ H, H = s.heap := ⟨_, rfl⟩
  obtain ⟨locs, hlc⟩ : ∃ locs : List Loc, locs = [] := ⟨_, rfl⟩
  have hw : Wd D A s.heap H locs (wX2 o cA oP oD) := by rw [hH, hlc]; exact hw
  have goal : W p l e rmX2_takesSecondDigit s m ([.ref (o 1), .int a1] : List Value).toArray below meth c H locs 0 0 Q (F0 m 0 ls []) := by
    clear hH hlc
    refine lv_iload_n hx hb dX2_takesSecondDigit_0 rfl (lv_at hl 1 rfl) ?_
    refine lv_if_lt (tgt := 24) hx hb dX2_takesSecondDigit_1 (by decide) (fun c1 => ?_) (fun c1 => ?_)
    · have hf := if_t c1 hf
      refine lv_iconst (v := 0) hx hb dX2_takesSecondDigit_24 (by decide) ?_
      obtain ⟨e0_, e1_⟩ := sm2 hf
      exact hret _ _ _ _ _ (by rw [← e1_]; exact hw) e0_ (Or.inr (Or.inl rfl)) dX2_takesSecondDigit_25
    · have hf := if_f c1 hf
      refine lv_iload_n hx hb dX2_takesSecondDigit_4 rfl (lv_at hl 1 rfl) ?_
      refine lv_bipush (v := 9) hx hb dX2_takesSecondDigit_5 (by decide) ?_
      refine lv_icmp_gt (tgt := 24) hx hb dX2_takesSecondDigit_7 (by decide) (fun c2 => ?_) (fun c2 => ?_)
      · have hf := if_t c2 hf
        refine lv_iconst (v := 0) hx hb dX2_takesSecondDigit_24 (by decide) ?_
        obtain ⟨e0_, e1_⟩ := sm2 hf
        exact hret _ _ _ _ _ (by rw [← e1_]; exact hw) e0_ (Or.inr (Or.inl rfl)) dX2_takesSecondDigit_25
      · have hf := if_f c2 hf
        refine lv_bipush (v := 10) hx hb dX2_takesSecondDigit_10 (by decide) ?_
        refine lv_aload_n hx hb dX2_takesSecondDigit_12 rfl (lv_at hl 0 rfl) ?_
        refine w_get hx hb hts hi2 hown hK hw 0 rfl rfl 4 (by decide) q0 rfl (v := .int (oP.1 4)) rfl dX2_takesSecondDigit_13 ?_
        refine lv_imul hx hb dX2_takesSecondDigit_16 ?_
        refine lv_iload_n hx hb dX2_takesSecondDigit_17 rfl (lv_at hl 1 rfl) ?_
        refine lv_iadd hx hb dX2_takesSecondDigit_18 ?_
        refine lv_bipush (v := 31) hx hb dX2_takesSecondDigit_19 (by decide) ?_
        refine lv_icmp_le (tgt := 26) hx hb dX2_takesSecondDigit_21 (by decide) (fun c3 => ?_) (fun c3 => ?_)
        · have hf := if_t c3 hf
          refine lv_aload_n hx hb dX2_takesSecondDigit_26 rfl (lv_at hl 0 rfl) ?_
          refine lv_bipush (v := 10) hx hb dX2_takesSecondDigit_27 (by decide) ?_
          refine lv_aload_n hx hb dX2_takesSecondDigit_29 rfl (lv_at hl 0 rfl) ?_
          refine w_get hx hb hts hi2 hown hK hw 0 rfl rfl 4 (by decide) q0 rfl (v := .int (oP.1 4)) rfl dX2_takesSecondDigit_30 ?_
          refine lv_imul hx hb dX2_takesSecondDigit_33 ?_
          refine lv_iload_n hx hb dX2_takesSecondDigit_34 rfl (lv_at hl 1 rfl) ?_
          refine lv_iadd hx hb dX2_takesSecondDigit_35 ?_
          refine w_put (ws' := (wX2 o cA ((sI oP 4 ((10 * (oP.1 4)) + a1))) oD)) hx hb hts hi2 tyX2 tyX2_ok nmX2 hown hK hw 0 rfl rfl 4 (by decide) q0 rfl rfl rfl rfl (Nat.le_of_ble_eq_true rfl) rfl dX2_takesSecondDigit_36 (fun H locs hw => ?_)
          refine lv_aload_n hx hb dX2_takesSecondDigit_39 rfl (lv_at hl 0 rfl) ?_
          refine lv_iconst (v := 2) hx hb dX2_takesSecondDigit_40 (by decide) ?_
          refine w_put (ws' := (wX2 o cA ((sI (sI oP 4 ((10 * (oP.1 4)) + a1)) 3 2)) oD)) hx hb hts hi2 tyX2 tyX2_ok nmX2 hown hK hw 0 rfl rfl 3 (by decide) q1 rfl rfl rfl rfl (Nat.le_of_ble_eq_true rfl) rfl dX2_takesSecondDigit_41 (fun H locs hw => ?_)
          refine lv_iconst (v := 1) hx hb dX2_takesSecondDigit_44 (by decide) ?_
          obtain ⟨e0_, e1_⟩ := sm2 hf
          exact hret _ _ _ _ _ (by rw [← e1_]; exact hw) e0_ (Or.inr (Or.inr rfl)) dX2_takesSecondDigit_45
        · have hf := if_f c3 hf
          refine lv_iconst (v := 0) hx hb dX2_takesSecondDigit_24 (by decide) ?_
          obtain ⟨e0_, e1_⟩ := sm2 hf
          exact hret _ _ _ _ _ (by rw [← e1_]; exact hw) e0_ (Or.inr (Or.inl rfl)) dX2_takesSecondDigit_25
  rw [hH, hlc] at goal
  exact goal
abbrev rmX2_takesMark : Room := { frames := 0, cells := 0, slots := 0, locals := 0 }
theorem hd_X2_takesMark : yX2_takesMark.cls = RX2 ∧ yX2_takesMark.cls ≠ "java/lang/invoke/MethodHandle" ∧ yX2_takesMark.cls ≠ "java/lang/invoke/VarHandle" ∧ (parseMethodDescriptor yX2_takesMark.desc).map (fun d => d.parameters.length) = some 1 := by decide +kernel
set_option maxHeartbeats 4000000 in
set_option maxRecDepth 100000 in
theorem k_X2_takesMark (l : Launch) (D : va_G) (cA : ClassId) (tx ty : Nat) (o : Nat → Nat) (oP : St) (oD : St) (a1 : Int32) (r : Int32) (oP' : St) (oD' : St) (hf : f_X2_takesMark oP oD a1 = some (r, oP', oD')) : Mi l yX2_takesMark wsX2_takesMark rmX2_takesMark D cA (z_X tx ty) [.ref (o 1), .int a1] (wX2 o cA oP oD) r (wX2 o cA oP' oD') := by
  refine Mi.of (cc := cX2_takesMark) (maxL := 3) (ret := (some .boolean)) (plainFor_of_name (by decide)) rfl (Nat.le_of_ble_eq_true rfl) (Or.inr rfl) ?_
  intro p e s m below meth c A Q hx hb hml hown hts hK hA hZ hret ls hl hw
  replace hown : s.vm.findClass RX2 = some m.cls := hown
  have hl : lv_has ls 3 [(0, .ref (o 1)), (1, .int a1)] := hl
  have hZo := z_X_ok tx ty
  have hi0 : ∀ w ∈ wsX00, w ∈ wsX2_takesMark := fun w h => List.mem_cons_of_mem _ (List.mem_append_right _ h)
  have hi2 : ∀ w ∈ wsX20, w ∈ wsX2_takesMark := fun w h => List.mem_cons_of_mem _ (List.mem_append_left _ (List.mem_append_right _ h))
  have q0 := hts (.fieldLink RX2 18 "ArcRings$Page" "draft" "LArcRings$Board;") (by decide +kernel)
  have q1 := hts (.fieldLink RX2 65 "ArcRings$Board" "width" "I") (by decide +kernel)
  have q2 := hts (.fieldLink RX2 62 "ArcRings$Page" "side" "I") (by decide +kernel)
  have q3 := hts (.fieldLink RX2 68 "ArcRings$Board" "height" "I") (by decide +kernel)
  have q4 := hts (.fieldLink RX2 30 "ArcRings$Page" "due" "I") (by decide +kernel)
  unfold f_X2_takesMark at hf
  obtain ⟨H, hH⟩ : ∃ H, H = s.heap := ⟨_, rfl⟩
  obtain ⟨locs, hlc⟩ : ∃ locs : List Loc, locs = [] := ⟨_, rfl⟩
  have hw : Wd D A s.heap H locs (wX2 o cA oP oD) := by rw [hH, hlc]; exact hw
  have goal : W p l e rmX2_takesMark s m ([.ref (o 1), .int a1] : List Value).toArray below meth c H locs 0 0 Q (F0 m 0 ls []) := by
    clear hH hlc
    refine lv_aload_n hx hb dX2_takesMark_0 rfl (lv_at hl 0 rfl) ?_
    refine w_get hx hb hts hi2 hown hK hw 0 rfl rfl 2 (by decide) q0 rfl (v := .ref (o 3)) rfl dX2_takesMark_1 ?_
    refine w_get hx hb hts hi0 hown hK hw 2 rfl rfl 0 (by decide) q1 rfl (v := .int (oD.1 0)) rfl dX2_takesMark_4 ?_
    refine lv_if_ne (tgt := 14) hx hb dX2_takesMark_7 (by decide) (fun c1 => ?_) (fun c1 => ?_)
    · have hf := if_f c1 hf
      refine lv_iconst (v := 0) hx hb dX2_takesMark_14 (by decide) ?_
      refine lv_istore_n (lv' := [(2, .int 0), (0, .ref (o 1)), (1, .int a1)]) hx hb dX2_takesMark_15 rfl hl (by decide) rfl (fun ls hl => ?_)
      refine lv_iload_n hx hb dX2_takesMark_16 rfl (lv_at hl 2 rfl) ?_
      refine lv_iload_n hx hb dX2_takesMark_17 rfl (lv_at hl 0 rfl) ?_
      refine lv_if_eq (tgt := 26) hx hb dX2_takesMark_18 (by decide) (fun c2 => ?_) (fun c2 => ?_)
      rotate_left
      · exact absurd c2 (by decide)
      refine lv_bipush (v := 58) hx hb dX2_takesMark_26 (by decide) ?_
      refine lv_icmp_eq (tgt := 33) hx hb dX2_takesMark_28 (by decide) (fun c3 => ?_) (fun c3 => ?_)
      · have hf := if_t c3 hf
        refine lv_iload_n hx hb dX2_takesMark_33 rfl (lv_at hl 0 rfl) ?_
        refine lv_if_eq (tgt := 56) hx hb dX2_takesMark_34 (by decide) (fun c4 => ?_) (fun c4 => ?_)
        rotate_left
        · exact absurd c4 (by decide)
        refine lv_aload_n hx hb dX2_takesMark_56 rfl (lv_at hl 1 rfl) ?_
        refine w_get hx hb hts hi2 hown hK hw 0 rfl rfl 2 (by decide) q0 rfl (v := .ref (o 3)) rfl dX2_takesMark_57 ?_
        refine lv_aload_n hx hb dX2_takesMark_60 rfl (lv_at hl 1 rfl) ?_
        refine w_get hx hb hts hi2 hown hK hw 0 rfl rfl 4 (by decide) q2 rfl (v := .int (oP.1 4)) rfl dX2_takesMark_61 ?_
        refine w_put (ws' := (wX2 o cA oP ((sI oD 1 (oP.1 4))))) hx hb hts hi0 tyX0 tyX0_ok nmX0 hown hK hw 2 rfl rfl 1 (by decide) q3 rfl rfl rfl rfl (Nat.le_of_ble_eq_true rfl) rfl dX2_takesMark_64 (fun H locs hw => ?_)
        refine lv_aload_n hx hb dX2_takesMark_67 rfl (lv_at hl 1 rfl) ?_
        refine lv_iconst (v := 3) hx hb dX2_takesMark_68 (by decide) ?_
        refine w_put (ws' := (wX2 o cA ((sI oP 3 3)) ((sI oD 1 (oP.1 4))))) hx hb hts hi2 tyX2 tyX2_ok nmX2 hown hK hw 0 rfl rfl 3 (by decide) q4 rfl rfl rfl rfl (Nat.le_of_ble_eq_true rfl) rfl dX2_takesMark_69 (fun H locs hw => ?_)
        refine lv_iconst (v := 1) hx hb dX2_takesMark_72 (by decide) ?_
        obtain ⟨e0_, e1_, e2_⟩ := sm3 hf
        exact hret _ _ _ _ _ (by rw [← e1_, ← e2_]; exact hw) e0_ (Or.inr (Or.inr rfl)) dX2_takesMark_73
      · have hf := if_f c3 hf
        refine lv_iconst (v := 0) hx hb dX2_takesMark_31 (by decide) ?_
        obtain ⟨e0_, e1_, e2_⟩ := sm3 hf
        exact hret _ _ _ _ _ (by rw [← e1_, ← e2_]; exact hw) e0_ (Or.inr (Or.inl rfl)) dX2_takesMark_32
    · have hf := if_t c1 hf
      refine lv_iconst (v := 1) hx hb dX2_takesMark_10 (by decide) ?_
      refine lv_goto (tgt := 15) hx hb dX2_takesMark_11 (by decide) ?_
      refine lv_istore_n (lv' := [(2, .int 1), (0, .ref (o 1)), (1, .int a1)]) hx hb dX2_takesMark_15 rfl hl (by decide) rfl (fun ls hl => ?_)
      refine lv_iload_n hx hb dX2_takesMark_16 rfl (lv_at hl 2 rfl) ?_
      refine lv_iload_n hx hb dX2_takesMark_17 rfl (lv_at hl 0 rfl) ?_
      refine lv_if_eq (tgt := 26) hx hb dX2_takesMark_18 (by decide) (fun c5 => ?_) (fun c5 => ?_)
      · exact absurd c5 (by decide)
      refine lv_bipush (v := 120) hx hb dX2_takesMark_21 (by decide) ?_
      refine lv_goto (tgt := 28) hx hb dX2_takesMark_23 (by decide) ?_
      refine lv_icmp_eq (tgt := 33) hx hb dX2_takesMark_28 (by decide) (fun c6 => ?_) (fun c6 => ?_)
      · have hf := if_t c6 hf
        refine lv_iload_n hx hb dX2_takesMark_33 rfl (lv_at hl 0 rfl) ?_
        refine lv_if_eq (tgt := 56) hx hb dX2_takesMark_34 (by decide) (fun c7 => ?_) (fun c7 => ?_)
        · exact absurd c7 (by decide)
        refine lv_aload_n hx hb dX2_takesMark_37 rfl (lv_at hl 1 rfl) ?_
        refine w_get hx hb hts hi2 hown hK hw 0 rfl rfl 2 (by decide) q0 rfl (v := .ref (o 3)) rfl dX2_takesMark_38 ?_
        refine lv_aload_n hx hb dX2_takesMark_41 rfl (lv_at hl 1 rfl) ?_
        refine w_get hx hb hts hi2 hown hK hw 0 rfl rfl 4 (by decide) q2 rfl (v := .int (oP.1 4)) rfl dX2_takesMark_42 ?_
        refine w_put (ws' := (wX2 o cA oP ((sI oD 0 (oP.1 4))))) hx hb hts hi0 tyX0 tyX0_ok nmX0 hown hK hw 2 rfl rfl 0 (by decide) q1 rfl rfl rfl rfl (Nat.le_of_ble_eq_true rfl) rfl dX2_takesMark_45 (fun H locs hw => ?_)
        refine lv_aload_n hx hb dX2_takesMark_48 rfl (lv_at hl 1 rfl) ?_
        refine lv_iconst (v := 0) hx hb dX2_takesMark_49 (by decide) ?_
        refine w_put (ws' := (wX2 o cA ((sI oP 3 0)) ((sI oD 0 (oP.1 4))))) hx hb hts hi2 tyX2 tyX2_ok nmX2 hown hK hw 0 rfl rfl 3 (by decide) q4 rfl rfl rfl rfl (Nat.le_of_ble_eq_true rfl) rfl dX2_takesMark_50 (fun H locs hw => ?_)
        refine lv_goto (tgt := 72) hx hb dX2_takesMark_53 (by decide) ?_
        refine lv_iconst (v := 1) hx hb dX2_takesMark_72 (by decide) ?_
        obtain ⟨e0_, e1_, e2_⟩ := sm3 hf
        exact hret _ _ _ _ _ (by rw [← e1_, ← e2_]; exact hw) e0_ (Or.inr (Or.inr rfl)) dX2_takesMark_73
      · have hf := if_f c6 hf
        refine lv_iconst (v := 0) hx hb dX2_takesMark_31 (by decide) ?_
        obtain ⟨e0_, e1_, e2_⟩ := sm3 hf
        exact hret _ _ _ _ _ (by rw [← e1_, ← e2_]; exact hw) e0_ (Or.inr (Or.inl rfl)) dX2_takesMark_32
  rw [hH, hlc] at goal
  exact goal
abbrev rmX2_takesAcross : Room := { frames := 1, cells := 0, slots := 0, locals := 23 }
theorem hd_X2_takesAcross : yX2_takesAcross.cls = RX2 ∧ yX2_takesAcross.cls ≠ "java/lang/invoke/MethodHandle" ∧ yX2_takesAcross.cls ≠ "java/lang/invoke/VarHandle" ∧ (parseMethodDescriptor yX2_takesAcross.desc).map (fun d => d.parameters.length) = some 1 := by decide +kernel
set_option maxHeartbeats 4000000 in
set_option maxRecDepth 100000 in
theorem k_X2_takesAcross (l : Launch) (D : va_G) (cA : ClassId) (tx ty : Nat) (o : Nat → Nat) (oP : St) (oD : St) (a1 : Int32) (r : Int32) (oP' : St) (hf : f_X2_takesAcross oP oD a1 = some (r, oP')) : Mi l yX2_takesAcross wsX2_takesAcross rmX2_takesAcross D cA (z_X tx ty) [.ref (o 1), .int a1] (wX2 o cA oP oD) r (wX2 o cA oP' oD) := by
  refine Mi.of (cc := cX2_takesAcross) (maxL := 2) (ret := (some .boolean)) (plainFor_of_name (by decide)) rfl (Nat.le_of_ble_eq_true rfl) (Or.inr rfl) ?_
  intro p e s m below meth c A Q hx hb hml hown hts hK hA hZ hret ls hl hw
  replace hown : s.vm.findClass RX2 = some m.cls := hown
  have hl : lv_has ls 2 [(0, .ref (o 1)), (1, .int a1)] := hl
  have hZo := z_X_ok tx ty
  have hi0 : ∀ w ∈ wsX00, w ∈ wsX2_takesAcross := fun w h => List.mem_cons_of_mem _ (List.mem_append_right _ h)
  have hi2 : ∀ w ∈ wsX20, w ∈ wsX2_takesAcross := fun w h => List.mem_cons_of_mem _ (List.mem_append_left _ (List.mem_append_right _ h))
  have q0 := hts (.fieldLink RX2 18 "ArcRings$Page" "draft" "LArcRings$Board;") (by decide +kernel)
  have q1 := hts (.fieldLink RX2 65 "ArcRings$Board" "width" "I") (by decide +kernel)
  have q2 := hts (.fieldLink RX2 71 "ArcRings$Board" "dots" "I") (by decide +kernel)
  have q3 := hts (.fieldLink RX2 77 "ArcRings$Page" "across" "I") (by decide +kernel)
  have q4 := hts (.fieldLink RX2 30 "ArcRings$Page" "due" "I") (by decide +kernel)
  unfold f_X2_takesAcross at hf
  obtain ⟨H, hH⟩ : ∃ H, H = s.heap := ⟨_, rfl⟩
  obtain ⟨locs, hlc⟩ : ∃ locs : List Loc, locs = [] := ⟨_, rfl⟩
  have hw : Wd D A s.heap H locs (wX2 o cA oP oD) := by rw [hH, hlc]; exact hw
  have goal : W p l e rmX2_takesAcross s m ([.ref (o 1), .int a1] : List Value).toArray below meth c H locs 0 0 Q (F0 m 0 ls []) := by
    clear hH hlc
    refine lv_iload_n hx hb dX2_takesAcross_0 rfl (lv_at hl 1 rfl) ?_
    refine lv_if_lt (tgt := 38) hx hb dX2_takesAcross_1 (by decide) (fun c1 => ?_) (fun c1 => ?_)
    · have hf := if_t c1 hf
      refine lv_iconst (v := 0) hx hb dX2_takesAcross_38 (by decide) ?_
      obtain ⟨e0_, e1_⟩ := sm2 hf
      exact hret _ _ _ _ _ (by rw [← e1_]; exact hw) e0_ (Or.inr (Or.inl rfl)) dX2_takesAcross_39
    · have hf := if_f c1 hf
      refine lv_iload_n hx hb dX2_takesAcross_4 rfl (lv_at hl 1 rfl) ?_
      refine lv_aload_n hx hb dX2_takesAcross_5 rfl (lv_at hl 0 rfl) ?_
      refine w_get hx hb hts hi2 hown hK hw 0 rfl rfl 2 (by decide) q0 rfl (v := .ref (o 3)) rfl dX2_takesAcross_6 ?_
      refine w_get hx hb hts hi0 hown hK hw 2 rfl rfl 0 (by decide) q1 rfl (v := .int (oD.1 0)) rfl dX2_takesAcross_9 ?_
      refine lv_icmp_ge (tgt := 38) hx hb dX2_takesAcross_12 (by decide) (fun c2 => ?_) (fun c2 => ?_)
      · have hf := if_t c2 hf
        refine lv_iconst (v := 0) hx hb dX2_takesAcross_38 (by decide) ?_
        obtain ⟨e0_, e1_⟩ := sm2 hf
        exact hret _ _ _ _ _ (by rw [← e1_]; exact hw) e0_ (Or.inr (Or.inl rfl)) dX2_takesAcross_39
      · have hf := if_f c2 hf
        refine lv_aload_n hx hb dX2_takesAcross_15 rfl (lv_at hl 0 rfl) ?_
        refine w_get hx hb hts hi2 hown hK hw 0 rfl rfl 2 (by decide) q0 rfl (v := .ref (o 3)) rfl dX2_takesAcross_16 ?_
        refine w_get hx hb hts hi0 hown hK hw 2 rfl rfl 2 (by decide) q2 rfl (v := .int (oD.1 2)) rfl dX2_takesAcross_19 ?_
        refine lv_bipush (v := 14) hx hb dX2_takesAcross_22 (by decide) ?_
        refine lv_icmp_ge (tgt := 38) hx hb dX2_takesAcross_24 (by decide) (fun c3 => ?_) (fun c3 => ?_)
        · have hf := if_t c3 hf
          refine lv_iconst (v := 0) hx hb dX2_takesAcross_38 (by decide) ?_
          obtain ⟨e0_, e1_⟩ := sm2 hf
          exact hret _ _ _ _ _ (by rw [← e1_]; exact hw) e0_ (Or.inr (Or.inl rfl)) dX2_takesAcross_39
        · have hf := if_f c3 hf
          refine lv_aload_n hx hb dX2_takesAcross_27 rfl (lv_at hl 0 rfl) ?_
          refine w_get hx hb hts hi2 hown hK hw 0 rfl rfl 2 (by decide) q0 rfl (v := .ref (o 3)) rfl dX2_takesAcross_28 ?_
          refine lv_iload_n hx hb dX2_takesAcross_31 rfl (lv_at hl 1 rfl) ?_
          obtain ⟨x4, g5, hf⟩ := bn1_e hf
          have fr := fr_X2_X0_oD o cA oP oD oD
          refine go_i (run_v (As := [.int a1]) (rest := []) ⟨hx, hb, hml, hown, hts⟩ (k_X0_isColumnFull l D cA tx ty o 3 oD a1 x4 g5 H.size) (cwV 1 hts gX2_takesAcross_X0_isColumnFull rfl rfl rfl hd_X0_isColumnFull ⟨Nat.le_of_ble_eq_true rfl, Nat.le_of_ble_eq_true rfl⟩) fr hw hK hA hZo hZ (ci := 0) rfl rfl rfl rfl hl.1 rfl (Nat.le_of_ble_eq_true rfl) dX2_takesAcross_32 ⟨Nat.zero_le _, Nat.zero_le _⟩) fr hw hA (fun H locs hw => ?_)
          refine lv_if_eq (tgt := 40) hx hb dX2_takesAcross_35 (by decide) (fun c6 => ?_) (fun c6 => ?_)
          · have hf := if_t c6 hf
            refine lv_aload_n hx hb dX2_takesAcross_40 rfl (lv_at hl 0 rfl) ?_
            refine lv_iload_n hx hb dX2_takesAcross_41 rfl (lv_at hl 1 rfl) ?_
            refine w_put (ws' := (wX2 o cA ((sI oP 5 a1)) oD)) hx hb hts hi2 tyX2 tyX2_ok nmX2 hown hK hw 0 rfl rfl 5 (by decide) q3 rfl rfl rfl rfl (Nat.le_of_ble_eq_true rfl) rfl dX2_takesAcross_42 (fun H locs hw => ?_)
            refine lv_aload_n hx hb dX2_takesAcross_45 rfl (lv_at hl 0 rfl) ?_
            refine lv_iconst (v := 4) hx hb dX2_takesAcross_46 (by decide) ?_
            refine w_put (ws' := (wX2 o cA ((sI (sI oP 5 a1) 3 4)) oD)) hx hb hts hi2 tyX2 tyX2_ok nmX2 hown hK hw 0 rfl rfl 3 (by decide) q4 rfl rfl rfl rfl (Nat.le_of_ble_eq_true rfl) rfl dX2_takesAcross_47 (fun H locs hw => ?_)
            refine lv_iconst (v := 1) hx hb dX2_takesAcross_50 (by decide) ?_
            obtain ⟨e0_, e1_⟩ := sm2 hf
            exact hret _ _ _ _ _ (by rw [← e1_]; exact hw) e0_ (Or.inr (Or.inr rfl)) dX2_takesAcross_51
          · have hf := if_f c6 hf
            refine lv_iconst (v := 0) hx hb dX2_takesAcross_38 (by decide) ?_
            obtain ⟨e0_, e1_⟩ := sm2 hf
            exact hret _ _ _ _ _ (by rw [← e1_]; exact hw) e0_ (Or.inr (Or.inl rfl)) dX2_takesAcross_39
  rw [hH, hlc] at goal
  exact goal
abbrev rmX2_takesDown : Room := { frames := 1, cells := 0, slots := 0, locals := 23 }
theorem hd_X2_takesDown : yX2_takesDown.cls = RX2 ∧ yX2_takesDown.cls ≠ "java/lang/invoke/MethodHandle" ∧ yX2_takesDown.cls ≠ "java/lang/invoke/VarHandle" ∧ (parseMethodDescriptor yX2_takesDown.desc).map (fun d => d.parameters.length) = some 1 := by decide +kernel
set_option maxHeartbeats 4000000 in
set_option maxRecDepth 100000 in
theorem k_X2_takesDown (l : Launch) (D : va_G) (cA : ClassId) (tx ty : Nat) (o : Nat → Nat) (oP : St) (oD : St) (a1 : Int32) (r : Int32) (oP' : St) (hf : f_X2_takesDown oP oD a1 = some (r, oP')) : Mi l yX2_takesDown wsX2_takesDown rmX2_takesDown D cA (z_X tx ty) [.ref (o 1), .int a1] (wX2 o cA oP oD) r (wX2 o cA oP' oD) := by
  refine Mi.of (cc := cX2_takesDown) (maxL := 2) (ret := (some .boolean)) (plainFor_of_name (by decide)) rfl (Nat.le_of_ble_eq_true rfl) (Or.inr rfl) ?_
  intro p e s m below meth c A Q hx hb hml hown hts hK hA hZ hret ls hl hw
  replace hown : s.vm.findClass RX2 = some m.cls := hown
  have hl : lv_has ls 2 [(0, .ref (o 1)), (1, .int a1)] := hl
  have hZo := z_X_ok tx ty
  have hi2 : ∀ w ∈ wsX20, w ∈ wsX2_takesDown := fun w h => List.mem_cons_of_mem _ (List.mem_append_left _ (List.mem_append_right _ h))
  have q0 := hts (.fieldLink RX2 18 "ArcRings$Page" "draft" "LArcRings$Board;") (by decide +kernel)
  have q1 := hts (.fieldLink RX2 77 "ArcRings$Page" "across" "I") (by decide +kernel)
  have q2 := hts (.fieldLink RX2 87 "ArcRings$Page" "down" "I") (by decide +kernel)
  have q3 := hts (.fieldLink RX2 30 "ArcRings$Page" "due" "I") (by decide +kernel)
  unfold f_X2_takesDown at hf
  obtain ⟨H, hH⟩ : ∃ H, H = s.heap := ⟨_, rfl⟩
  obtain ⟨locs, hlc⟩ : ∃ locs : List Loc, locs = [] := ⟨_, rfl⟩
  have hw : Wd D A s.heap H locs (wX2 o cA oP oD) := by rw [hH, hlc]; exact hw
  have goal : W p l e rmX2_takesDown s m ([.ref (o 1), .int a1] : List Value).toArray below meth c H locs 0 0 Q (F0 m 0 ls []) := by
    clear hH hlc
    refine lv_aload_n hx hb dX2_takesDown_0 rfl (lv_at hl 0 rfl) ?_
    refine w_get hx hb hts hi2 hown hK hw 0 rfl rfl 2 (by decide) q0 rfl (v := .ref (o 3)) rfl dX2_takesDown_1 ?_
    refine lv_aload_n hx hb dX2_takesDown_4 rfl (lv_at hl 0 rfl) ?_
    refine w_get hx hb hts hi2 hown hK hw 0 rfl rfl 5 (by decide) q1 rfl (v := .int (oP.1 5)) rfl dX2_takesDown_5 ?_
    refine lv_iload_n hx hb dX2_takesDown_8 rfl (lv_at hl 1 rfl) ?_
    obtain ⟨x1, g2, hf⟩ := bn1_e hf
    have fr := fr_X2_X0_oD o cA oP oD oD
    refine go_i (run_v (As := [.int (oP.1 5), .int a1]) (rest := []) ⟨hx, hb, hml, hown, hts⟩ (k_X0_holds l D cA tx ty o 3 oD (oP.1 5) a1 x1 g2 H.size) (cwV 2 hts gX2_takesDown_X0_holds rfl rfl rfl hd_X0_holds ⟨Nat.le_of_ble_eq_true rfl, Nat.le_of_ble_eq_true rfl⟩) fr hw hK hA hZo hZ (ci := 0) rfl rfl rfl rfl hl.1 rfl (Nat.le_of_ble_eq_true rfl) dX2_takesDown_9 ⟨Nat.zero_le _, Nat.zero_le _⟩) fr hw hA (fun H locs hw => ?_)
    refine lv_if_eq (tgt := 30) hx hb dX2_takesDown_12 (by decide) (fun c3 => ?_) (fun c3 => ?_)
    · have hf := if_t c3 hf
      refine lv_iconst (v := 0) hx hb dX2_takesDown_30 (by decide) ?_
      obtain ⟨e0_, e1_⟩ := sm2 hf
      exact hret _ _ _ _ _ (by rw [← e1_]; exact hw) e0_ (Or.inr (Or.inl rfl)) dX2_takesDown_31
    · have hf := if_f c3 hf
      refine lv_aload_n hx hb dX2_takesDown_15 rfl (lv_at hl 0 rfl) ?_
      refine w_get hx hb hts hi2 hown hK hw 0 rfl rfl 2 (by decide) q0 rfl (v := .ref (o 3)) rfl dX2_takesDown_16 ?_
      refine lv_aload_n hx hb dX2_takesDown_19 rfl (lv_at hl 0 rfl) ?_
      refine w_get hx hb hts hi2 hown hK hw 0 rfl rfl 5 (by decide) q1 rfl (v := .int (oP.1 5)) rfl dX2_takesDown_20 ?_
      refine lv_iload_n hx hb dX2_takesDown_23 rfl (lv_at hl 1 rfl) ?_
      obtain ⟨x4, g5, hf⟩ := bn1_e hf
      have fr := fr_X2_X0_oD o cA oP oD oD
      refine go_i (run_v (As := [.int (oP.1 5), .int a1]) (rest := []) ⟨hx, hb, hml, hown, hts⟩ (k_X0_isTaken l D cA tx ty o 3 oD (oP.1 5) a1 x4 g5 H.size) (cwV 2 hts gX2_takesDown_X0_isTaken rfl rfl rfl hd_X0_isTaken ⟨Nat.le_of_ble_eq_true rfl, Nat.le_of_ble_eq_true rfl⟩) fr hw hK hA hZo hZ (ci := 0) rfl rfl rfl rfl hl.1 rfl (Nat.le_of_ble_eq_true rfl) dX2_takesDown_24 ⟨Nat.zero_le _, Nat.zero_le _⟩) fr hw hA (fun H locs hw => ?_)
      refine lv_if_eq (tgt := 32) hx hb dX2_takesDown_27 (by decide) (fun c6 => ?_) (fun c6 => ?_)
      · have hf := if_t c6 hf
        refine lv_aload_n hx hb dX2_takesDown_32 rfl (lv_at hl 0 rfl) ?_
        refine lv_iload_n hx hb dX2_takesDown_33 rfl (lv_at hl 1 rfl) ?_
        refine w_put (ws' := (wX2 o cA ((sI oP 6 a1)) oD)) hx hb hts hi2 tyX2 tyX2_ok nmX2 hown hK hw 0 rfl rfl 6 (by decide) q2 rfl rfl rfl rfl (Nat.le_of_ble_eq_true rfl) rfl dX2_takesDown_34 (fun H locs hw => ?_)
        refine lv_aload_n hx hb dX2_takesDown_37 rfl (lv_at hl 0 rfl) ?_
        refine lv_iconst (v := 5) hx hb dX2_takesDown_38 (by decide) ?_
        refine w_put (ws' := (wX2 o cA ((sI (sI oP 6 a1) 3 5)) oD)) hx hb hts hi2 tyX2 tyX2_ok nmX2 hown hK hw 0 rfl rfl 3 (by decide) q3 rfl rfl rfl rfl (Nat.le_of_ble_eq_true rfl) rfl dX2_takesDown_39 (fun H locs hw => ?_)
        refine lv_iconst (v := 1) hx hb dX2_takesDown_42 (by decide) ?_
        obtain ⟨e0_, e1_⟩ := sm2 hf
        exact hret _ _ _ _ _ (by rw [← e1_]; exact hw) e0_ (Or.inr (Or.inr rfl)) dX2_takesDown_43
      · have hf := if_f c6 hf
        refine lv_iconst (v := 0) hx hb dX2_takesDown_30 (by decide) ?_
        obtain ⟨e0_, e1_⟩ := sm2 hf
        exact hret _ _ _ _ _ (by rw [← e1_]; exact hw) e0_ (Or.inr (Or.inl rfl)) dX2_takesDown_31
  rw [hH, hlc] at goal
  exact goal
abbrev rmX2_takesTurn : Room := { frames := 2, cells := 0, slots := 0, locals := 46 }
theorem hd_X2_takesTurn : yX2_takesTurn.cls = RX2 ∧ yX2_takesTurn.cls ≠ "java/lang/invoke/MethodHandle" ∧ yX2_takesTurn.cls ≠ "java/lang/invoke/VarHandle" ∧ (parseMethodDescriptor yX2_takesTurn.desc).map (fun d => d.parameters.length) = some 1 := by decide +kernel
set_option maxHeartbeats 4000000 in
set_option maxRecDepth 100000 in
theorem k_X2_takesTurn (l : Launch) (D : va_G) (cA : ClassId) (tx ty : Nat) (o : Nat → Nat) (oP : St) (oD : St) (a1 : Int32) (r : Int32) (oP' : St) (oD' : St) (hf : f_X2_takesTurn oP oD a1 = some (r, oP', oD')) : Mi l yX2_takesTurn wsX2_takesTurn rmX2_takesTurn D cA (z_X tx ty) [.ref (o 1), .int a1] (wX2 o cA oP oD) r (wX2 o cA oP' oD') := by
  refine Mi.of (cc := cX2_takesTurn) (maxL := 2) (ret := (some .boolean)) (plainFor_of_name (by decide)) rfl (Nat.le_of_ble_eq_true rfl) (Or.inr rfl) ?_
  intro p e s m below meth c A Q hx hb hml hown hts hK hA hZ hret ls hl hw
  replace hown : s.vm.findClass RX2 = some m.cls := hown
  have hl : lv_has ls 2 [(0, .ref (o 1)), (1, .int a1)] := hl
  have hZo := z_X_ok tx ty
  have hi2 : ∀ w ∈ wsX20, w ∈ wsX2_takesTurn := fun w h => List.mem_cons_of_mem _ (List.mem_append_left _ (List.mem_append_right _ h))
  have q0 := hts (.fieldLink RX2 30 "ArcRings$Page" "due" "I") (by decide +kernel)
  have q1 := hts (.fieldLink RX2 18 "ArcRings$Page" "draft" "LArcRings$Board;") (by decide +kernel)
  have q2 := hts (.fieldLink RX2 77 "ArcRings$Page" "across" "I") (by decide +kernel)
  have q3 := hts (.fieldLink RX2 87 "ArcRings$Page" "down" "I") (by decide +kernel)
  unfold f_X2_takesTurn at hf
  obtain ⟨H, hH⟩ : ∃ H, H = s.heap := ⟨_, rfl⟩
  obtain ⟨locs, hlc⟩ : ∃ locs : List Loc, locs = [] := ⟨_, rfl⟩
  have hw : Wd D A s.heap H locs (wX2 o cA oP oD) := by rw [hH, hlc]; exact hw
  have goal : W p l e rmX2_takesTurn s m ([.ref (o 1), .int a1] : List Value).toArray below meth c H locs 0 0 Q (F0 m 0 ls []) := by
    clear hH hlc
    refine lv_iload_n hx hb dX2_takesTurn_0 rfl (lv_at hl 1 rfl) ?_
    refine lv_bipush (v := 45) hx hb dX2_takesTurn_1 (by decide) ?_
    refine lv_icmp_eq (tgt := 20) hx hb dX2_takesTurn_3 (by decide) (fun c1 => ?_) (fun c1 => ?_)
    · have hf := if_t c1 hf
      refine lv_aload_n hx hb dX2_takesTurn_20 rfl (lv_at hl 0 rfl) ?_
      refine lv_iconst (v := 3) hx hb dX2_takesTurn_21 (by decide) ?_
      refine w_put (ws' := (wX2 o cA ((sI oP 3 3)) oD)) hx hb hts hi2 tyX2 tyX2_ok nmX2 hown hK hw 0 rfl rfl 3 (by decide) q0 rfl rfl rfl rfl (Nat.le_of_ble_eq_true rfl) rfl dX2_takesTurn_22 (fun H locs hw => ?_)
      refine lv_aload_n hx hb dX2_takesTurn_25 rfl (lv_at hl 0 rfl) ?_
      refine w_get hx hb hts hi2 hown hK hw 0 rfl rfl 2 (by decide) q1 rfl (v := .ref (o 3)) rfl dX2_takesTurn_26 ?_
      refine lv_aload_n hx hb dX2_takesTurn_29 rfl (lv_at hl 0 rfl) ?_
      refine w_get hx hb hts hi2 hown hK hw 0 rfl rfl 5 (by decide) q2 rfl (v := .int (oP.1 5)) rfl dX2_takesTurn_30 ?_
      refine lv_aload_n hx hb dX2_takesTurn_33 rfl (lv_at hl 0 rfl) ?_
      refine w_get hx hb hts hi2 hown hK hw 0 rfl rfl 6 (by decide) q3 rfl (v := .int (oP.1 6)) rfl dX2_takesTurn_34 ?_
      refine lv_iload_n hx hb dX2_takesTurn_37 rfl (lv_at hl 1 rfl) ?_
      refine lv_bipush (v := 45) hx hb dX2_takesTurn_38 (by decide) ?_
      refine lv_icmp_ne (tgt := 47) hx hb dX2_takesTurn_40 (by decide) (fun c2 => ?_) (fun c2 => ?_)
      · have hf := if_f c2 hf
        refine lv_iload_n hx hb dX2_takesTurn_47 rfl (lv_at hl 1 rfl) ?_
        refine lv_bipush (v := 48) hx hb dX2_takesTurn_48 (by decide) ?_
        refine lv_isub hx hb dX2_takesTurn_50 ?_
        obtain ⟨x3, oD4, g5, hf⟩ := bn2_e hf
        have fr := fr_X2_X0_oD o cA ((sI oP 3 3)) oD oD4
        refine go_i (run_v (As := [.int (oP.1 5), .int (oP.1 6), .int (a1 - 48)]) (rest := []) ⟨hx, hb, hml, hown, hts⟩ (k_X0_add l D cA tx ty o 3 oD (oP.1 5) (oP.1 6) (a1 - 48) x3 oD4 g5 H.size) (cwV 3 hts gX2_takesTurn_X0_add rfl rfl rfl hd_X0_add ⟨Nat.le_of_ble_eq_true rfl, Nat.le_of_ble_eq_true rfl⟩) fr hw hK hA hZo hZ (ci := 0) rfl rfl rfl rfl hl.1 rfl (Nat.le_of_ble_eq_true rfl) dX2_takesTurn_51 ⟨Nat.zero_le _, Nat.zero_le _⟩) fr hw hA (fun H locs hw => ?_)
        obtain ⟨bz, hf⟩ := if_n hf
        obtain ⟨e0_, e1_, e2_⟩ := sm3 hf
        exact hret _ _ _ _ _ (by rw [← e1_, ← e2_]; exact hw) e0_ (Or.inr bz) dX2_takesTurn_54
      · have hf := if_t c2 hf
        refine lv_iconst (v := (-1)) hx hb dX2_takesTurn_43 (by decide) ?_
        refine lv_goto (tgt := 51) hx hb dX2_takesTurn_44 (by decide) ?_
        obtain ⟨x6, oD7, g8, hf⟩ := bn2_e hf
        have fr := fr_X2_X0_oD o cA ((sI oP 3 3)) oD oD7
        refine go_i (run_v (As := [.int (oP.1 5), .int (oP.1 6), .int ((-1))]) (rest := []) ⟨hx, hb, hml, hown, hts⟩ (k_X0_add l D cA tx ty o 3 oD (oP.1 5) (oP.1 6) ((-1)) x6 oD7 g8 H.size) (cwV 3 hts gX2_takesTurn_X0_add rfl rfl rfl hd_X0_add ⟨Nat.le_of_ble_eq_true rfl, Nat.le_of_ble_eq_true rfl⟩) fr hw hK hA hZo hZ (ci := 0) rfl rfl rfl rfl hl.1 rfl (Nat.le_of_ble_eq_true rfl) dX2_takesTurn_51 ⟨Nat.zero_le _, Nat.zero_le _⟩) fr hw hA (fun H locs hw => ?_)
        obtain ⟨bz, hf⟩ := if_n hf
        obtain ⟨e0_, e1_, e2_⟩ := sm3 hf
        exact hret _ _ _ _ _ (by rw [← e1_, ← e2_]; exact hw) e0_ (Or.inr bz) dX2_takesTurn_54
    · have hf := if_f c1 hf
      refine lv_iload_n hx hb dX2_takesTurn_6 rfl (lv_at hl 1 rfl) ?_
      refine lv_bipush (v := 48) hx hb dX2_takesTurn_7 (by decide) ?_
      refine lv_icmp_lt (tgt := 18) hx hb dX2_takesTurn_9 (by decide) (fun c9 => ?_) (fun c9 => ?_)
      · have hf := if_t c9 hf
        refine lv_iconst (v := 0) hx hb dX2_takesTurn_18 (by decide) ?_
        obtain ⟨e0_, e1_, e2_⟩ := sm3 hf
        exact hret _ _ _ _ _ (by rw [← e1_, ← e2_]; exact hw) e0_ (Or.inr (Or.inl rfl)) dX2_takesTurn_19
      · have hf := if_f c9 hf
        refine lv_iload_n hx hb dX2_takesTurn_12 rfl (lv_at hl 1 rfl) ?_
        refine lv_bipush (v := 55) hx hb dX2_takesTurn_13 (by decide) ?_
        refine lv_icmp_le (tgt := 20) hx hb dX2_takesTurn_15 (by decide) (fun c10 => ?_) (fun c10 => ?_)
        · have hf := if_t c10 hf
          refine lv_aload_n hx hb dX2_takesTurn_20 rfl (lv_at hl 0 rfl) ?_
          refine lv_iconst (v := 3) hx hb dX2_takesTurn_21 (by decide) ?_
          refine w_put (ws' := (wX2 o cA ((sI oP 3 3)) oD)) hx hb hts hi2 tyX2 tyX2_ok nmX2 hown hK hw 0 rfl rfl 3 (by decide) q0 rfl rfl rfl rfl (Nat.le_of_ble_eq_true rfl) rfl dX2_takesTurn_22 (fun H locs hw => ?_)
          refine lv_aload_n hx hb dX2_takesTurn_25 rfl (lv_at hl 0 rfl) ?_
          refine w_get hx hb hts hi2 hown hK hw 0 rfl rfl 2 (by decide) q1 rfl (v := .ref (o 3)) rfl dX2_takesTurn_26 ?_
          refine lv_aload_n hx hb dX2_takesTurn_29 rfl (lv_at hl 0 rfl) ?_
          refine w_get hx hb hts hi2 hown hK hw 0 rfl rfl 5 (by decide) q2 rfl (v := .int (oP.1 5)) rfl dX2_takesTurn_30 ?_
          refine lv_aload_n hx hb dX2_takesTurn_33 rfl (lv_at hl 0 rfl) ?_
          refine w_get hx hb hts hi2 hown hK hw 0 rfl rfl 6 (by decide) q3 rfl (v := .int (oP.1 6)) rfl dX2_takesTurn_34 ?_
          refine lv_iload_n hx hb dX2_takesTurn_37 rfl (lv_at hl 1 rfl) ?_
          refine lv_bipush (v := 45) hx hb dX2_takesTurn_38 (by decide) ?_
          refine lv_icmp_ne (tgt := 47) hx hb dX2_takesTurn_40 (by decide) (fun c11 => ?_) (fun c11 => ?_)
          · have hf := if_f c11 hf
            refine lv_iload_n hx hb dX2_takesTurn_47 rfl (lv_at hl 1 rfl) ?_
            refine lv_bipush (v := 48) hx hb dX2_takesTurn_48 (by decide) ?_
            refine lv_isub hx hb dX2_takesTurn_50 ?_
            obtain ⟨x12, oD13, g14, hf⟩ := bn2_e hf
            have fr := fr_X2_X0_oD o cA ((sI oP 3 3)) oD oD13
            refine go_i (run_v (As := [.int (oP.1 5), .int (oP.1 6), .int (a1 - 48)]) (rest := []) ⟨hx, hb, hml, hown, hts⟩ (k_X0_add l D cA tx ty o 3 oD (oP.1 5) (oP.1 6) (a1 - 48) x12 oD13 g14 H.size) (cwV 3 hts gX2_takesTurn_X0_add rfl rfl rfl hd_X0_add ⟨Nat.le_of_ble_eq_true rfl, Nat.le_of_ble_eq_true rfl⟩) fr hw hK hA hZo hZ (ci := 0) rfl rfl rfl rfl hl.1 rfl (Nat.le_of_ble_eq_true rfl) dX2_takesTurn_51 ⟨Nat.zero_le _, Nat.zero_le _⟩) fr hw hA (fun H locs hw => ?_)
            obtain ⟨bz, hf⟩ := if_n hf
            obtain ⟨e0_, e1_, e2_⟩ := sm3 hf
            exact hret _ _ _ _ _ (by rw [← e1_, ← e2_]; exact hw) e0_ (Or.inr bz) dX2_takesTurn_54
          · have hf := if_t c11 hf
            refine lv_iconst (v := (-1)) hx hb dX2_takesTurn_43 (by decide) ?_
            refine lv_goto (tgt := 51) hx hb dX2_takesTurn_44 (by decide) ?_
            obtain ⟨x15, oD16, g17, hf⟩ := bn2_e hf
            have fr := fr_X2_X0_oD o cA ((sI oP 3 3)) oD oD16
            refine go_i (run_v (As := [.int (oP.1 5), .int (oP.1 6), .int ((-1))]) (rest := []) ⟨hx, hb, hml, hown, hts⟩ (k_X0_add l D cA tx ty o 3 oD (oP.1 5) (oP.1 6) ((-1)) x15 oD16 g17 H.size) (cwV 3 hts gX2_takesTurn_X0_add rfl rfl rfl hd_X0_add ⟨Nat.le_of_ble_eq_true rfl, Nat.le_of_ble_eq_true rfl⟩) fr hw hK hA hZo hZ (ci := 0) rfl rfl rfl rfl hl.1 rfl (Nat.le_of_ble_eq_true rfl) dX2_takesTurn_51 ⟨Nat.zero_le _, Nat.zero_le _⟩) fr hw hA (fun H locs hw => ?_)
            obtain ⟨bz, hf⟩ := if_n hf
            obtain ⟨e0_, e1_, e2_⟩ := sm3 hf
            exact hret _ _ _ _ _ (by rw [← e1_, ← e2_]; exact hw) e0_ (Or.inr bz) dX2_takesTurn_54
        · have hf := if_f c10 hf
          refine lv_iconst (v := 0) hx hb dX2_takesTurn_18 (by decide) ?_
          obtain ⟨e0_, e1_, e2_⟩ := sm3 hf
          exact hret _ _ _ _ _ (by rw [← e1_, ← e2_]; exact hw) e0_ (Or.inr (Or.inl rfl)) dX2_takesTurn_19
  rw [hH, hlc] at goal
  exact goal
abbrev rmX2_takes : Room := { frames := 3, cells := 0, slots := 0, locals := 67 }
theorem hd_X2_takes : yX2_takes.cls = RX2 ∧ yX2_takes.cls ≠ "java/lang/invoke/MethodHandle" ∧ yX2_takes.cls ≠ "java/lang/invoke/VarHandle" ∧ (parseMethodDescriptor yX2_takes.desc).map (fun d => d.parameters.length) = some 1 := by decide +kernel
set_option maxHeartbeats 4000000 in
set_option maxRecDepth 100000 in
theorem k_X2_takes (l : Launch) (D : va_G) (cA : ClassId) (tx ty : Nat) (o : Nat → Nat) (oP : St) (oD : St) (a1 : Int32) (r : Int32) (oP' : St) (oD' : St) (hf : f_X2_takes oP oD a1 = some (r, oP', oD')) : Mi l yX2_takes wsX2_takes rmX2_takes D cA (z_X tx ty) [.ref (o 1), .int a1] (wX2 o cA oP oD) r (wX2 o cA oP' oD') := by
  refine Mi.of (cc := cX2_takes) (maxL := 2) (ret := (some .boolean)) (plainFor_of_name (by decide)) rfl (Nat.le_of_ble_eq_true rfl) (Or.inr rfl) ?_
  intro p e s m below meth c A Q hx hb hml hown hts hK hA hZ hret ls hl hw
  replace hown : s.vm.findClass RX2 = some m.cls := hown
  have hl : lv_has ls 2 [(0, .ref (o 1)), (1, .int a1)] := hl
  have hZo := z_X_ok tx ty
  have hi2 : ∀ w ∈ wsX20, w ∈ wsX2_takes := fun w h => List.mem_cons_of_mem _ (List.mem_append_left _ (List.mem_append_right _ h))
  have q0 := hts (.fieldLink RX2 30 "ArcRings$Page" "due" "I") (by decide +kernel)
  unfold f_X2_takes at hf
  obtain ⟨H, hH⟩ : ∃ H, H = s.heap := ⟨_, rfl⟩
  obtain ⟨locs, hlc⟩ : ∃ locs : List Loc, locs = [] := ⟨_, rfl⟩
  have hw : Wd D A s.heap H locs (wX2 o cA oP oD) := by rw [hH, hlc]; exact hw
  have goal : W p l e rmX2_takes s m ([.ref (o 1), .int a1] : List Value).toArray below meth c H locs 0 0 Q (F0 m 0 ls []) := by
    clear hH hlc
    refine lv_aload_n hx hb dX2_takes_0 rfl (lv_at hl 0 rfl) ?_
    refine w_get hx hb hts hi2 hown hK hw 0 rfl rfl 3 (by decide) q0 rfl (v := .int (oP.1 3)) rfl dX2_takes_1 ?_
    by_cases c1 : (oP.1 3) = 0
    · have hf := if_t c1 hf
      refine lv_tableIn (tgt := 40) hx hb dX2_takes_4 (by rw [c1]; decide) (by rw [c1]; decide) (by rw [c1]; rfl) (by decide) ?_
      refine lv_aload_n hx hb dX2_takes_40 rfl (lv_at hl 0 rfl) ?_
      refine lv_iload_n hx hb dX2_takes_41 rfl (lv_at hl 1 rfl) ?_
      refine lv_bipush (v := 48) hx hb dX2_takes_42 (by decide) ?_
      refine lv_isub hx hb dX2_takes_44 ?_
      obtain ⟨x2, oP3, g4, hf⟩ := bn2_e hf
      have fr := fr_X2_X2_oP_oD o cA oP oD oP3 oD
      refine go_i (run_v (As := [.int (a1 - 48)]) (rest := []) ⟨hx, hb, hml, hown, hts⟩ (k_X2_takesFirstDigit l D cA tx ty o oP oD (a1 - 48) x2 oP3 g4 H.size) (cwV 1 hts gX2_takes_X2_takesFirstDigit rfl rfl rfl hd_X2_takesFirstDigit ⟨Nat.le_of_ble_eq_true rfl, Nat.le_of_ble_eq_true rfl⟩) fr hw hK hA hZo hZ (ci := 2) rfl rfl rfl rfl hl.1 rfl (Nat.le_of_ble_eq_true rfl) dX2_takes_45 ⟨Nat.zero_le _, Nat.zero_le _⟩) fr hw hA (fun H locs hw => ?_)
      obtain ⟨bz, hf⟩ := if_n hf
      obtain ⟨e0_, e1_, e2_⟩ := sm3 hf
      exact hret _ _ _ _ _ (by rw [← e1_, ← e2_]; exact hw) e0_ (Or.inr bz) dX2_takes_48
    have hf := if_f c1 hf
    by_cases c5 : (oP.1 3) = 1
    · have hf := if_t c5 hf
      refine lv_tableIn (tgt := 49) hx hb dX2_takes_4 (by rw [c5]; decide) (by rw [c5]; decide) (by rw [c5]; rfl) (by decide) ?_
      refine lv_aload_n hx hb dX2_takes_49 rfl (lv_at hl 0 rfl) ?_
      refine lv_iload_n hx hb dX2_takes_50 rfl (lv_at hl 1 rfl) ?_
      refine lv_bipush (v := 48) hx hb dX2_takes_51 (by decide) ?_
      refine lv_isub hx hb dX2_takes_53 ?_
      obtain ⟨x6, oP7, g8, hf⟩ := bn2_e hf
      have fr := fr_X2_X2_oP_oD o cA oP oD oP7 oD
      refine go_i (run_v (As := [.int (a1 - 48)]) (rest := []) ⟨hx, hb, hml, hown, hts⟩ (k_X2_takesSecondDigit l D cA tx ty o oP oD (a1 - 48) x6 oP7 g8 H.size) (cwV 1 hts gX2_takes_X2_takesSecondDigit rfl rfl rfl hd_X2_takesSecondDigit ⟨Nat.le_of_ble_eq_true rfl, Nat.le_of_ble_eq_true rfl⟩) fr hw hK hA hZo hZ (ci := 2) rfl rfl rfl rfl hl.1 rfl (Nat.le_of_ble_eq_true rfl) dX2_takes_54 ⟨Nat.zero_le _, Nat.zero_le _⟩) fr hw hA (fun H locs hw => ?_)
      obtain ⟨bz, hf⟩ := if_n hf
      obtain ⟨e0_, e1_, e2_⟩ := sm3 hf
      exact hret _ _ _ _ _ (by rw [← e1_, ← e2_]; exact hw) e0_ (Or.inr bz) dX2_takes_57
    have hf := if_f c5 hf
    by_cases c9 : (oP.1 3) = 2
    · have hf := if_t c9 hf
      refine lv_tableIn (tgt := 58) hx hb dX2_takes_4 (by rw [c9]; decide) (by rw [c9]; decide) (by rw [c9]; rfl) (by decide) ?_
      refine lv_aload_n hx hb dX2_takes_58 rfl (lv_at hl 0 rfl) ?_
      refine lv_iload_n hx hb dX2_takes_59 rfl (lv_at hl 1 rfl) ?_
      obtain ⟨x10, oP11, oD12, g13, hf⟩ := bn3_e hf
      have fr := fr_X2_X2_oP_oD o cA oP oD oP11 oD12
      refine go_i (run_v (As := [.int a1]) (rest := []) ⟨hx, hb, hml, hown, hts⟩ (k_X2_takesMark l D cA tx ty o oP oD a1 x10 oP11 oD12 g13 H.size) (cwV 1 hts gX2_takes_X2_takesMark rfl rfl rfl hd_X2_takesMark ⟨Nat.le_of_ble_eq_true rfl, Nat.le_of_ble_eq_true rfl⟩) fr hw hK hA hZo hZ (ci := 2) rfl rfl rfl rfl hl.1 rfl (Nat.le_of_ble_eq_true rfl) dX2_takes_60 ⟨Nat.zero_le _, Nat.zero_le _⟩) fr hw hA (fun H locs hw => ?_)
      obtain ⟨bz, hf⟩ := if_n hf
      obtain ⟨e0_, e1_, e2_⟩ := sm3 hf
      exact hret _ _ _ _ _ (by rw [← e1_, ← e2_]; exact hw) e0_ (Or.inr bz) dX2_takes_63
    have hf := if_f c9 hf
    by_cases c14 : (oP.1 3) = 3
    · have hf := if_t c14 hf
      refine lv_tableIn (tgt := 64) hx hb dX2_takes_4 (by rw [c14]; decide) (by rw [c14]; decide) (by rw [c14]; rfl) (by decide) ?_
      refine lv_aload_n hx hb dX2_takes_64 rfl (lv_at hl 0 rfl) ?_
      refine lv_iload_n hx hb dX2_takes_65 rfl (lv_at hl 1 rfl) ?_
      obtain ⟨x15, g16, hf⟩ := bn1_e hf
      have fr := fr_X2_S o cA oP oD
      refine go_i (run_s (As := [.int a1]) (rest := [.ref (o 1)]) ⟨hx, hb, hml, hown, hts⟩ (k_X2_valueOf l D cA a1 x15 g16 H.size) (va_cwS 1 hts gX2_takes_X2_valueOf rfl rfl rfl hd_X2_valueOf ⟨Nat.le_of_ble_eq_true rfl, Nat.le_of_ble_eq_true rfl⟩) fr hw hK hA rfl hl.1 rfl (Nat.le_of_ble_eq_true rfl) dX2_takes_66 ⟨Nat.zero_le _, Nat.zero_le _⟩) fr hw hA (fun H locs hw => ?_)
      obtain ⟨x17, oP18, g19, hf⟩ := bn2_e hf
      have fr := fr_X2_X2_oP_oD o cA oP oD oP18 oD
      refine go_i (run_v (As := [.int x15]) (rest := []) ⟨hx, hb, hml, hown, hts⟩ (k_X2_takesAcross l D cA tx ty o oP oD x15 x17 oP18 g19 H.size) (cwV 1 hts gX2_takes_X2_takesAcross rfl rfl rfl hd_X2_takesAcross ⟨Nat.le_of_ble_eq_true rfl, Nat.le_of_ble_eq_true rfl⟩) fr hw hK hA hZo hZ (ci := 2) rfl rfl rfl rfl hl.1 rfl (Nat.le_of_ble_eq_true rfl) dX2_takes_69 ⟨Nat.zero_le _, Nat.zero_le _⟩) fr hw hA (fun H locs hw => ?_)
      obtain ⟨bz, hf⟩ := if_n hf
      obtain ⟨e0_, e1_, e2_⟩ := sm3 hf
      exact hret _ _ _ _ _ (by rw [← e1_, ← e2_]; exact hw) e0_ (Or.inr bz) dX2_takes_72
    have hf := if_f c14 hf
    by_cases c20 : (oP.1 3) = 4
    · have hf := if_t c20 hf
      refine lv_tableIn (tgt := 73) hx hb dX2_takes_4 (by rw [c20]; decide) (by rw [c20]; decide) (by rw [c20]; rfl) (by decide) ?_
      refine lv_aload_n hx hb dX2_takes_73 rfl (lv_at hl 0 rfl) ?_
      refine lv_iload_n hx hb dX2_takes_74 rfl (lv_at hl 1 rfl) ?_
      obtain ⟨x21, g22, hf⟩ := bn1_e hf
      have fr := fr_X2_S o cA oP oD
      refine go_i (run_s (As := [.int a1]) (rest := [.ref (o 1)]) ⟨hx, hb, hml, hown, hts⟩ (k_X2_valueOf l D cA a1 x21 g22 H.size) (va_cwS 1 hts gX2_takes_X2_valueOf rfl rfl rfl hd_X2_valueOf ⟨Nat.le_of_ble_eq_true rfl, Nat.le_of_ble_eq_true rfl⟩) fr hw hK hA rfl hl.1 rfl (Nat.le_of_ble_eq_true rfl) dX2_takes_75 ⟨Nat.zero_le _, Nat.zero_le _⟩) fr hw hA (fun H locs hw => ?_)
      obtain ⟨x23, oP24, g25, hf⟩ := bn2_e hf
      have fr := fr_X2_X2_oP_oD o cA oP oD oP24 oD
      refine go_i (run_v (As := [.int x21]) (rest := []) ⟨hx, hb, hml, hown, hts⟩ (k_X2_takesDown l D cA tx ty o oP oD x21 x23 oP24 g25 H.size) (cwV 1 hts gX2_takes_X2_takesDown rfl rfl rfl hd_X2_takesDown ⟨Nat.le_of_ble_eq_true rfl, Nat.le_of_ble_eq_true rfl⟩) fr hw hK hA hZo hZ (ci := 2) rfl rfl rfl rfl hl.1 rfl (Nat.le_of_ble_eq_true rfl) dX2_takes_78 ⟨Nat.zero_le _, Nat.zero_le _⟩) fr hw hA (fun H locs hw => ?_)
      obtain ⟨bz, hf⟩ := if_n hf
      obtain ⟨e0_, e1_, e2_⟩ := sm3 hf
      exact hret _ _ _ _ _ (by rw [← e1_, ← e2_]; exact hw) e0_ (Or.inr bz) dX2_takes_81
    have hf := if_f c20 hf
    refine lv_tableOut (tgt := 82) hx hb dX2_takes_4 (w_out (n := 5) (by decide) (fun k hk => ?_)) (by decide) ?_
    · match k, hk with
      | 0, _ => exact c1
      | 1, _ => exact c5
      | 2, _ => exact c9
      | 3, _ => exact c14
      | 4, _ => exact c20
      | k + 5, hk => omega
    refine lv_aload_n hx hb dX2_takes_82 rfl (lv_at hl 0 rfl) ?_
    refine lv_iload_n hx hb dX2_takes_83 rfl (lv_at hl 1 rfl) ?_
    obtain ⟨x26, oP27, oD28, g29, hf⟩ := bn3_e hf
    have fr := fr_X2_X2_oP_oD o cA oP oD oP27 oD28
    refine go_i (run_v (As := [.int a1]) (rest := []) ⟨hx, hb, hml, hown, hts⟩ (k_X2_takesTurn l D cA tx ty o oP oD a1 x26 oP27 oD28 g29 H.size) (cwV 1 hts gX2_takes_X2_takesTurn rfl rfl rfl hd_X2_takesTurn ⟨Nat.le_of_ble_eq_true rfl, Nat.le_of_ble_eq_true rfl⟩) fr hw hK hA hZo hZ (ci := 2) rfl rfl rfl rfl hl.1 rfl (Nat.le_of_ble_eq_true rfl) dX2_takes_84 ⟨Nat.zero_le _, Nat.zero_le _⟩) fr hw hA (fun H locs hw => ?_)
    obtain ⟨bz, hf⟩ := if_n hf
    obtain ⟨e0_, e1_, e2_⟩ := sm3 hf
    exact hret _ _ _ _ _ (by rw [← e1_, ← e2_]; exact hw) e0_ (Or.inr bz) dX2_takes_87
  rw [hH, hlc] at goal
  exact goal
abbrev rmX2_read : Room := { frames := 4, cells := 0, slots := 0, locals := 88 }
theorem hd_X2_read : yX2_read.cls = RX2 ∧ yX2_read.cls ≠ "java/lang/invoke/MethodHandle" ∧ yX2_read.cls ≠ "java/lang/invoke/VarHandle" ∧ (parseMethodDescriptor yX2_read.desc).map (fun d => d.parameters.length) = some 0 := by decide +kernel
set_option maxHeartbeats 4000000 in
set_option maxRecDepth 100000 in
theorem k_X2_read (l : Launch) (D : va_G) (cA : ClassId) (tx ty : Nat) (o : Nat → Nat) (oP : St) (oD : St) (r : Int32) (oP' : St) (oD' : St) (hf : f_X2_read oP oD = some (r, oP', oD')) : Mi l yX2_read wsX2_read rmX2_read D cA (z_X tx ty) [.ref (o 1)] (wX2 o cA oP oD) r (wX2 o cA oP' oD') := by
  refine Mi.of (cc := cX2_read) (maxL := 2) (ret := (some .int)) (plainFor_of_name (by decide)) rfl (Nat.le_of_ble_eq_true rfl) (Or.inl rfl) ?_
  intro p e s m below meth c A Q hx hb hml hown hts hK hA hZ hret ls hl hw
  replace hown : s.vm.findClass RX2 = some m.cls := hown
  have hl : lv_has ls 2 [(0, .ref (o 1))] := hl
  have hZo := z_X_ok tx ty
  have hi2 : ∀ w ∈ wsX20, w ∈ wsX2_read := fun w h => List.mem_cons_of_mem _ (List.mem_append_left _ (List.mem_append_right _ h))
  have q0 := hts (.fieldLink RX2 18 "ArcRings$Page" "draft" "LArcRings$Board;") (by decide +kernel)
  have q1 := hts (.fieldLink RX2 30 "ArcRings$Page" "due" "I") (by decide +kernel)
  have q2 := hts (.fieldLink RX2 22 "ArcRings$Page" "length" "I") (by decide +kernel)
  have q3 := hts (.fieldLink RX2 9 "ArcRings$Page" "letters" "[I") (by decide +kernel)
  have h_L14 : ∀ (n : Nat) (v1 : Int32) (oP : St) (oD : St), f_X2_read_L14  n v1 oP oD = some (r, oP', oD') → ∀ (H : Heap) (locs : List Loc) (ls : Array Slot), Wd D A s.heap H locs (wX2 o cA oP oD) → lv_has ls 2 [(0, .ref (o 1)), (1, .int v1)] → W p l e rmX2_read s m ([.ref (o 1)] : List Value).toArray below meth c H locs 0 0 Q (F0 m 14 ls []) := by
    intro n
    induction n with
    | zero =>
      intro v1 oP oD hf
      have hf : none = some (r, oP', oD') := hf
      cases hf
    | succ n ih =>
      intro v1 oP oD hf H locs ls hw hl
      have hf := (f_X2_read_L14_s  n v1 oP oD).symm.trans hf
      refine lv_iload_n hx hb dX2_read_14 rfl (lv_at hl 1 rfl) ?_
      refine lv_aload_n hx hb dX2_read_15 rfl (lv_at hl 0 rfl) ?_
      refine w_get hx hb hts hi2 hown hK hw 0 rfl rfl 1 (by decide) q2 rfl (v := .int (oP.1 1)) rfl dX2_read_16 ?_
      refine lv_icmp_ge (tgt := 43) hx hb dX2_read_19 (by decide) (fun c3 => ?_) (fun c3 => ?_)
      · have hf := if_t c3 hf
        refine lv_aload_n hx hb dX2_read_43 rfl (lv_at hl 0 rfl) ?_
        refine w_get hx hb hts hi2 hown hK hw 0 rfl rfl 1 (by decide) q2 rfl (v := .int (oP.1 1)) rfl dX2_read_44 ?_
        obtain ⟨e0_, e1_, e2_⟩ := sm3 hf
        exact hret _ _ _ _ _ (by rw [← e1_, ← e2_]; exact hw) e0_ (Or.inl rfl) dX2_read_47
      · have hf := if_f c3 hf
        refine lv_aload_n hx hb dX2_read_22 rfl (lv_at hl 0 rfl) ?_
        refine lv_aload_n hx hb dX2_read_23 rfl (lv_at hl 0 rfl) ?_
        refine w_get hx hb hts hi2 hown hK hw 0 rfl rfl 0 (by decide) q3 rfl (v := .ref (o 2)) rfl dX2_read_24 ?_
        refine lv_iload_n hx hb dX2_read_27 rfl (lv_at hl 1 rfl) ?_
        obtain ⟨x4, g5, hf⟩ := bn1_e hf
        refine w_ald hx hb hK hw 1 rfl g5 dX2_read_28 ?_
        obtain ⟨x6, oP7, oD8, g9, hf⟩ := bn3_e hf
        have fr := fr_X2_X2_oP_oD o cA oP oD oP7 oD8
        refine go_i (run_v (As := [.int x4]) (rest := []) ⟨hx, hb, hml, hown, hts⟩ (k_X2_takes l D cA tx ty o oP oD x4 x6 oP7 oD8 g9 H.size) (cwV 1 hts gX2_read_X2_takes rfl rfl rfl hd_X2_takes ⟨Nat.le_of_ble_eq_true rfl, Nat.le_of_ble_eq_true rfl⟩) fr hw hK hA hZo hZ (ci := 2) rfl rfl rfl rfl hl.1 rfl (Nat.le_of_ble_eq_true rfl) dX2_read_29 ⟨Nat.zero_le _, Nat.zero_le _⟩) fr hw hA (fun H locs hw => ?_)
        refine lv_if_ne (tgt := 37) hx hb dX2_read_32 (by decide) (fun c10 => ?_) (fun c10 => ?_)
        · have hf := if_f c10 hf
          refine lv_iinc (v := v1 + 1) (lv' := [(1, .int (v1 + 1)), (0, .ref (o 1))]) hx hb dX2_read_37 hl (k := 1) rfl (by rfl) (by decide) rfl (fun ls hl => ?_)
          refine lv_goto (tgt := 14) hx hb dX2_read_40 (by decide) ?_
          exact ih (v1 + 1) oP7 oD8 hf H locs ls hw (lv_sub hl [1, 0] rfl)
        · have hf := if_t c10 hf
          refine lv_iload_n hx hb dX2_read_35 rfl (lv_at hl 1 rfl) ?_
          obtain ⟨e0_, e1_, e2_⟩ := sm3 hf
          exact hret _ _ _ _ _ (by rw [← e1_, ← e2_]; exact hw) e0_ (Or.inl rfl) dX2_read_36
  unfold f_X2_read at hf
  obtain ⟨H, hH⟩ : ∃ H, H = s.heap := ⟨_, rfl⟩
  obtain ⟨locs, hlc⟩ : ∃ locs : List Loc, locs = [] := ⟨_, rfl⟩
  have hw : Wd D A s.heap H locs (wX2 o cA oP oD) := by rw [hH, hlc]; exact hw
  have goal : W p l e rmX2_read s m ([.ref (o 1)] : List Value).toArray below meth c H locs 0 0 Q (F0 m 0 ls []) := by
    clear hH hlc
    refine lv_aload_n hx hb dX2_read_0 rfl (lv_at hl 0 rfl) ?_
    refine w_get hx hb hts hi2 hown hK hw 0 rfl rfl 2 (by decide) q0 rfl (v := .ref (o 3)) rfl dX2_read_1 ?_
    obtain ⟨oD1, g2, hf⟩ := bn1_e hf
    have fr := fr_X2_X0_oD o cA oP oD oD1
    refine go_v (run_v (As := []) (rest := []) ⟨hx, hb, hml, hown, hts⟩ (k_X0_clear l D cA tx ty o 3 oD oD1 g2 H.size) (cwV 0 hts gX2_read_X0_clear rfl rfl rfl hd_X0_clear ⟨Nat.le_of_ble_eq_true rfl, Nat.le_of_ble_eq_true rfl⟩) fr hw hK hA hZo hZ (ci := 0) rfl rfl rfl rfl hl.1 rfl (Nat.le_of_ble_eq_true rfl) dX2_read_4 ⟨Nat.zero_le _, Nat.zero_le _⟩) fr hw hA (fun H locs hw => ?_)
    refine lv_aload_n hx hb dX2_read_7 rfl (lv_at hl 0 rfl) ?_
    refine lv_iconst (v := 0) hx hb dX2_read_8 (by decide) ?_
    refine w_put (ws' := (wX2 o cA ((sI oP 3 0)) oD1)) hx hb hts hi2 tyX2 tyX2_ok nmX2 hown hK hw 0 rfl rfl 3 (by decide) q1 rfl rfl rfl rfl (Nat.le_of_ble_eq_true rfl) rfl dX2_read_9 (fun H locs hw => ?_)
    refine lv_iconst (v := 0) hx hb dX2_read_12 (by decide) ?_
    refine lv_istore_n (lv' := [(1, .int 0), (0, .ref (o 1))]) hx hb dX2_read_13 rfl hl (by decide) rfl (fun ls hl => ?_)
    exact h_L14  _ 0 ((sI oP 3 0)) oD1 hf H locs ls hw (lv_sub hl [1, 0] rfl)
  rw [hH, hlc] at goal
  exact goal
abbrev rmX2_isSheet : Room := { frames := 5, cells := 0, slots := 0, locals := 109 }
theorem hd_X2_isSheet : yX2_isSheet.cls = RX2 ∧ yX2_isSheet.cls ≠ "java/lang/invoke/MethodHandle" ∧ yX2_isSheet.cls ≠ "java/lang/invoke/VarHandle" ∧ (parseMethodDescriptor yX2_isSheet.desc).map (fun d => d.parameters.length) = some 0 := by decide +kernel
set_option maxHeartbeats 4000000 in
set_option maxRecDepth 100000 in
theorem k_X2_isSheet (l : Launch) (D : va_G) (cA : ClassId) (tx ty : Nat) (o : Nat → Nat) (oP : St) (oD : St) (r : Int32) (oP' : St) (oD' : St) (hf : f_X2_isSheet oP oD = some (r, oP', oD')) : Mi l yX2_isSheet wsX2_isSheet rmX2_isSheet D cA (z_X tx ty) [.ref (o 1)] (wX2 o cA oP oD) r (wX2 o cA oP' oD') := by
  refine Mi.of (cc := cX2_isSheet) (maxL := 1) (ret := (some .boolean)) (plainFor_of_name (by decide)) rfl (Nat.le_of_ble_eq_true rfl) (Or.inr rfl) ?_
  intro p e s m below meth c A Q hx hb hml hown hts hK hA hZ hret ls hl hw
  replace hown : s.vm.findClass RX2 = some m.cls := hown
  have hl : lv_has ls 1 [(0, .ref (o 1))] := hl
  have hZo := z_X_ok tx ty
  have hi2 : ∀ w ∈ wsX20, w ∈ wsX2_isSheet := fun w h => List.mem_cons_of_mem _ (List.mem_append_left _ (List.mem_append_right _ h))
  have q0 := hts (.fieldLink RX2 22 "ArcRings$Page" "length" "I") (by decide +kernel)
  have q1 := hts (.fieldLink RX2 30 "ArcRings$Page" "due" "I") (by decide +kernel)
  unfold f_X2_isSheet at hf
  obtain ⟨H, hH⟩ : ∃ H, H = s.heap := ⟨_, rfl⟩
  obtain ⟨locs, hlc⟩ : ∃ locs : List Loc, locs = [] := ⟨_, rfl⟩
  have hw : Wd D A s.heap H locs (wX2 o cA oP oD) := by rw [hH, hlc]; exact hw
  have goal : W p l e rmX2_isSheet s m ([.ref (o 1)] : List Value).toArray below meth c H locs 0 0 Q (F0 m 0 ls []) := by
    clear hH hlc
    refine lv_aload_n hx hb dX2_isSheet_0 rfl (lv_at hl 0 rfl) ?_
    obtain ⟨x1, oP2, oD3, g4, hf⟩ := bn3_e hf
    have fr := fr_X2_X2_oP_oD o cA oP oD oP2 oD3
    refine go_i (run_v (As := []) (rest := []) ⟨hx, hb, hml, hown, hts⟩ (k_X2_read l D cA tx ty o oP oD x1 oP2 oD3 g4 H.size) (cwV 0 hts gX2_isSheet_X2_read rfl rfl rfl hd_X2_read ⟨Nat.le_of_ble_eq_true rfl, Nat.le_of_ble_eq_true rfl⟩) fr hw hK hA hZo hZ (ci := 2) rfl rfl rfl rfl hl.1 rfl (Nat.le_of_ble_eq_true rfl) dX2_isSheet_1 ⟨Nat.zero_le _, Nat.zero_le _⟩) fr hw hA (fun H locs hw => ?_)
    refine lv_aload_n hx hb dX2_isSheet_4 rfl (lv_at hl 0 rfl) ?_
    refine w_get hx hb hts hi2 hown hK hw 0 rfl rfl 1 (by decide) q0 rfl (v := .int (oP2.1 1)) rfl dX2_isSheet_5 ?_
    refine lv_icmp_ne (tgt := 23) hx hb dX2_isSheet_8 (by decide) (fun c5 => ?_) (fun c5 => ?_)
    · have hf := if_f c5 hf
      refine lv_iconst (v := 0) hx hb dX2_isSheet_23 (by decide) ?_
      obtain ⟨e0_, e1_, e2_⟩ := sm3 hf
      exact hret _ _ _ _ _ (by rw [← e1_, ← e2_]; exact hw) e0_ (Or.inr (Or.inl rfl)) dX2_isSheet_24
    · have hf := if_t c5 hf
      refine lv_aload_n hx hb dX2_isSheet_11 rfl (lv_at hl 0 rfl) ?_
      refine w_get hx hb hts hi2 hown hK hw 0 rfl rfl 3 (by decide) q1 rfl (v := .int (oP2.1 3)) rfl dX2_isSheet_12 ?_
      refine lv_iconst (v := 3) hx hb dX2_isSheet_15 (by decide) ?_
      refine lv_icmp_ne (tgt := 23) hx hb dX2_isSheet_16 (by decide) (fun c6 => ?_) (fun c6 => ?_)
      · have hf := if_f c6 hf
        refine lv_iconst (v := 0) hx hb dX2_isSheet_23 (by decide) ?_
        obtain ⟨e0_, e1_, e2_⟩ := sm3 hf
        exact hret _ _ _ _ _ (by rw [← e1_, ← e2_]; exact hw) e0_ (Or.inr (Or.inl rfl)) dX2_isSheet_24
      · have hf := if_t c6 hf
        refine lv_iconst (v := 1) hx hb dX2_isSheet_19 (by decide) ?_
        refine lv_goto (tgt := 24) hx hb dX2_isSheet_20 (by decide) ?_
        obtain ⟨e0_, e1_, e2_⟩ := sm3 hf
        exact hret _ _ _ _ _ (by rw [← e1_, ← e2_]; exact hw) e0_ (Or.inr (Or.inr rfl)) dX2_isSheet_24
  rw [hH, hlc] at goal
  exact goal
