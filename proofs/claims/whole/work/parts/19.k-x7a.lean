abbrev rmX7_letter : Room := { frames := 1, cells := 0, slots := 0, locals := 22 }
theorem hd_X7_letter : yX7_letter.cls = RX7 ∧ yX7_letter.cls ≠ "java/lang/invoke/MethodHandle" ∧ yX7_letter.cls ≠ "java/lang/invoke/VarHandle" ∧ (parseMethodDescriptor yX7_letter.desc).map (fun d => d.parameters.length) = some 1 := by decide +kernel
set_option maxHeartbeats 4000000 in
set_option maxRecDepth 100000 in
theorem k_X7_letter (l : Launch) (D : va_G) (cA : ClassId) (o : Nat → Nat) (oM : St) (a1 : Int32) (r : Int32) (oM' : St) (hf : f_X7_letter oM a1 = some (r, oM')) : Mi l yX7_letter wsX7_letter rmX7_letter D cA z_0 [.ref (o 0), .int a1] (wX7 o cA oM) r (wX7 o cA oM') := by
  refine Mi.of (cc := cX7_letter) (maxL := 2) (ret := (some .int)) (plainFor_of_name (by decide)) rfl (Nat.le_of_ble_eq_true rfl) (Or.inl rfl) ?_
  intro p e s m below meth c A Q hx hb hml hown hts hK hA hZ hret ls hl hw
  replace hown : s.vm.findClass RX7 = some m.cls := hown
  have hl : lv_has ls 2 [(0, .ref (o 0)), (1, .int a1)] := hl
  have hZo := z_0_ok
  have hi7 : ∀ w ∈ wsX70, w ∈ wsX7_letter := fun w h => List.mem_cons_of_mem _ (List.mem_append_right _ h)
  have q0 := hts (.fieldLink RX7 62 "ArcRingsModel" "pageLength" "I") (by decide +kernel)
  have q1 := hts (.fieldLink RX7 7 "ArcRingsModel" "page" "[I") (by decide +kernel)
  unfold f_X7_letter at hf
  obtain ⟨H, hH⟩ : ∃ H, H = s.heap := ⟨_, rfl⟩
  obtain ⟨locs, hlc⟩ : ∃ locs : List Loc, locs = [] := ⟨_, rfl⟩
  have hw : Wd D A s.heap H locs (wX7 o cA oM) := by rw [hH, hlc]; exact hw
  have goal : W p l e rmX7_letter s m ([.ref (o 0), .int a1] : List Value).toArray below meth c H locs 0 0 Q (F0 m 0 ls []) := by
    clear hH hlc
    refine lv_iload_n hx hb dX7_letter_0 rfl (lv_at hl 1 rfl) ?_
    refine lv_bipush (v := 32) hx hb dX7_letter_1 (by decide) ?_
    refine lv_bipush (v := 126) hx hb dX7_letter_3 (by decide) ?_
    obtain ⟨x1, g2, hf⟩ := bn1_e hf
    have fr := fr_X7_S o cA oM
    refine go_i (run_s (As := [.int a1, .int 32, .int 126]) (rest := []) ⟨hx, hb, hml, hown, hts⟩ (k_X7_within l D cA a1 32 126 x1 g2 H.size) (va_cwS 3 hts gX7_letter_X7_within rfl rfl rfl hd_X7_within ⟨Nat.le_of_ble_eq_true rfl, Nat.le_of_ble_eq_true rfl⟩) fr hw hK hA rfl hl.1 rfl (Nat.le_of_ble_eq_true rfl) dX7_letter_5 ⟨Nat.zero_le _, Nat.zero_le _⟩) fr hw hA (fun H locs hw => ?_)
    refine lv_if_ne (tgt := 14) hx hb dX7_letter_8 (by decide) (fun c3 => ?_) (fun c3 => ?_)
    · have hf := if_f c3 hf
      refine lv_aload_n hx hb dX7_letter_14 rfl (lv_at hl 0 rfl) ?_
      refine w_get hx hb hts hi7 hown hK hw 0 rfl rfl 0 (by decide) q0 rfl (v := .int (oM.1 0)) rfl dX7_letter_15 ?_
      refine lv_bipush (v := 50) hx hb dX7_letter_18 (by decide) ?_
      refine lv_icmp_ne (tgt := 26) hx hb dX7_letter_20 (by decide) (fun c4 => ?_) (fun c4 => ?_)
      · have hf := if_f c4 hf
        refine lv_aload_n hx hb dX7_letter_26 rfl (lv_at hl 0 rfl) ?_
        refine w_get hx hb hts hi7 hown hK hw 0 rfl rfl 1 (by decide) q1 rfl (v := .ref (o 1)) rfl dX7_letter_27 ?_
        refine lv_aload_n hx hb dX7_letter_30 rfl (lv_at hl 0 rfl) ?_
        refine w_get hx hb hts hi7 hown hK hw 0 rfl rfl 0 (by decide) q0 rfl (v := .int (oM.1 0)) rfl dX7_letter_31 ?_
        refine lv_iload_n hx hb dX7_letter_34 rfl (lv_at hl 1 rfl) ?_
        obtain ⟨oM6, g5, hf⟩ := bn1_e hf
        refine w_aws hx hb hK hw 1 rfl g5 (fun z => (wX7 o cA z)) (fun _ => rfl) dX7_letter_35 (fun H locs hw => ?_)
        refine lv_aload_n hx hb dX7_letter_36 rfl (lv_at hl 0 rfl) ?_
        refine lv_dup hx hb dX7_letter_37 rfl ?_
        refine w_get hx hb hts hi7 hown hK hw 0 rfl rfl 0 (by decide) q0 rfl (v := .int (oM6.1 0)) rfl dX7_letter_38 ?_
        refine lv_iconst (v := 1) hx hb dX7_letter_41 (by decide) ?_
        refine lv_iadd hx hb dX7_letter_42 ?_
        refine w_put (ws' := (wX7 o cA ((sI oM6 0 ((oM6.1 0) + 1))))) hx hb hts hi7 tyX7 tyX7_ok nmX7 hown hK hw 0 rfl rfl 0 (by decide) q0 rfl rfl rfl rfl (Nat.le_of_ble_eq_true rfl) rfl dX7_letter_43 (fun H locs hw => ?_)
        refine lv_aload_n hx hb dX7_letter_46 rfl (lv_at hl 0 rfl) ?_
        refine w_get hx hb hts hi7 hown hK hw 0 rfl rfl 0 (by decide) q0 rfl (v := .int ((oM6.1 0) + 1)) rfl dX7_letter_47 ?_
        obtain ⟨e0_, e1_⟩ := sm2 hf
        exact hret _ _ _ _ _ (by rw [← e1_]; exact hw) e0_ (Or.inl rfl) dX7_letter_50
      · have hf := if_t c4 hf
        refine lv_bipush (v := (-104)) hx hb dX7_letter_23 (by decide) ?_
        obtain ⟨e0_, e1_⟩ := sm2 hf
        exact hret _ _ _ _ _ (by rw [← e1_]; exact hw) e0_ (Or.inl rfl) dX7_letter_25
    · have hf := if_t c3 hf
      refine lv_bipush (v := (-102)) hx hb dX7_letter_11 (by decide) ?_
      obtain ⟨e0_, e1_⟩ := sm2 hf
      exact hret _ _ _ _ _ (by rw [← e1_]; exact hw) e0_ (Or.inl rfl) dX7_letter_13
  rw [hH, hlc] at goal
  exact goal
abbrev rmX7_blank : Room := { frames := 0, cells := 0, slots := 0, locals := 0 }
theorem hd_X7_blank : yX7_blank.cls = RX7 ∧ yX7_blank.cls ≠ "java/lang/invoke/MethodHandle" ∧ yX7_blank.cls ≠ "java/lang/invoke/VarHandle" ∧ (parseMethodDescriptor yX7_blank.desc).map (fun d => d.parameters.length) = some 0 := by decide +kernel
set_option maxHeartbeats 4000000 in
set_option maxRecDepth 100000 in
theorem k_X7_blank (l : Launch) (D : va_G) (cA : ClassId) (o : Nat → Nat) (oM : St) (r : Int32) (oM' : St) (hf : f_X7_blank oM = some (r, oM')) : Mi l yX7_blank wsX7_blank rmX7_blank D cA z_0 [.ref (o 0)] (wX7 o cA oM) r (wX7 o cA oM') := by
  refine Mi.of (cc := cX7_blank) (maxL := 2) (ret := (some .int)) (plainFor_of_name (by decide)) rfl (Nat.le_of_ble_eq_true rfl) (Or.inl rfl) ?_
  intro p e s m below meth c A Q hx hb hml hown hts hK hA hZ hret ls hl hw
  replace hown : s.vm.findClass RX7 = some m.cls := hown
  have hl : lv_has ls 2 [(0, .ref (o 0))] := hl
  have hZo := z_0_ok
  have hi7 : ∀ w ∈ wsX70, w ∈ wsX7_blank := fun w h => List.mem_cons_of_mem _ (List.mem_append_right _ h)
  have q0 := hts (.fieldLink RX7 62 "ArcRingsModel" "pageLength" "I") (by decide +kernel)
  unfold f_X7_blank at hf
  obtain ⟨H, hH⟩ : ∃ H, H = s.heap := ⟨_, rfl⟩
  obtain ⟨locs, hlc⟩ : ∃ locs : List Loc, locs = [] := ⟨_, rfl⟩
  have hw : Wd D A s.heap H locs (wX7 o cA oM) := by rw [hH, hlc]; exact hw
  have goal : W p l e rmX7_blank s m ([.ref (o 0)] : List Value).toArray below meth c H locs 0 0 Q (F0 m 0 ls []) := by
    clear hH hlc
    refine lv_aload_n hx hb dX7_blank_0 rfl (lv_at hl 0 rfl) ?_
    refine w_get hx hb hts hi7 hown hK hw 0 rfl rfl 0 (by decide) q0 rfl (v := .int (oM.1 0)) rfl dX7_blank_1 ?_
    refine lv_istore_n (lv' := [(1, .int (oM.1 0)), (0, .ref (o 0))]) hx hb dX7_blank_4 rfl hl (by decide) rfl (fun ls hl => ?_)
    refine lv_aload_n hx hb dX7_blank_5 rfl (lv_at hl 1 rfl) ?_
    refine lv_iconst (v := 0) hx hb dX7_blank_6 (by decide) ?_
    refine w_put (ws' := (wX7 o cA ((sI oM 0 0)))) hx hb hts hi7 tyX7 tyX7_ok nmX7 hown hK hw 0 rfl rfl 0 (by decide) q0 rfl rfl rfl rfl (Nat.le_of_ble_eq_true rfl) rfl dX7_blank_7 (fun H locs hw => ?_)
    refine lv_iload_n hx hb dX7_blank_10 rfl (lv_at hl 0 rfl) ?_
    obtain ⟨e0_, e1_⟩ := sm2 hf
    exact hret _ _ _ _ _ (by rw [← e1_]; exact hw) e0_ (Or.inl rfl) dX7_blank_11
  rw [hH, hlc] at goal
  exact goal
abbrev rmX7_beginsSide : Room := { frames := 1, cells := 0, slots := 0, locals := 22 }
theorem hd_X7_beginsSide : yX7_beginsSide.cls = RX7 ∧ yX7_beginsSide.cls ≠ "java/lang/invoke/MethodHandle" ∧ yX7_beginsSide.cls ≠ "java/lang/invoke/VarHandle" ∧ (parseMethodDescriptor yX7_beginsSide.desc).map (fun d => d.parameters.length) = some 2 := by decide +kernel
set_option maxHeartbeats 4000000 in
set_option maxRecDepth 100000 in
theorem k_X7_beginsSide (l : Launch) (D : va_G) (cA : ClassId) (o : Nat → Nat) (oM : St) (a1 : Int32) (a2 : Int32) (r : Int32) (oM' : St) (hf : f_X7_beginsSide oM a1 a2 = some (r, oM')) : Mi l yX7_beginsSide wsX7_beginsSide rmX7_beginsSide D cA z_0 [.ref (o 0), .int a1, .int a2] (wX7 o cA oM) r (wX7 o cA oM') := by
  refine Mi.of (cc := cX7_beginsSide) (maxL := 4) (ret := (some .boolean)) (plainFor_of_name (by decide)) rfl (Nat.le_of_ble_eq_true rfl) (Or.inr rfl) ?_
  intro p e s m below meth c A Q hx hb hml hown hts hK hA hZ hret ls hl hw
  replace hown : s.vm.findClass RX7 = some m.cls := hown
  have hl : lv_has ls 4 [(0, .ref (o 0)), (1, .int a1), (2, .int a2)] := hl
  have hZo := z_0_ok
  have hi7 : ∀ w ∈ wsX70, w ∈ wsX7_beginsSide := fun w h => List.mem_cons_of_mem _ (List.mem_append_right _ h)
  have q0 := hts (.fieldLink RX7 66 "ArcRingsModel" "newSide" "I") (by decide +kernel)
  have q1 := hts (.fieldLink RX7 69 "ArcRingsModel" "stage" "I") (by decide +kernel)
  unfold f_X7_beginsSide at hf
  obtain ⟨H, hH⟩ : ∃ H, H = s.heap := ⟨_, rfl⟩
  obtain ⟨locs, hlc⟩ : ∃ locs : List Loc, locs = [] := ⟨_, rfl⟩
  have hw : Wd D A s.heap H locs (wX7 o cA oM) := by rw [hH, hlc]; exact hw
  have goal : W p l e rmX7_beginsSide s m ([.ref (o 0), .int a1, .int a2] : List Value).toArray below meth c H locs 0 0 Q (F0 m 0 ls []) := by
    clear hH hlc
    refine lv_aload_n hx hb dX7_beginsSide_0 rfl (lv_at hl 0 rfl) ?_
    refine lv_iload_n hx hb dX7_beginsSide_1 rfl (lv_at hl 1 rfl) ?_
    refine lv_bipush (v := 48) hx hb dX7_beginsSide_2 (by decide) ?_
    refine lv_isub hx hb dX7_beginsSide_4 ?_
    refine w_put (ws' := (wX7 o cA ((sI oM 19 (a1 - 48))))) hx hb hts hi7 tyX7 tyX7_ok nmX7 hown hK hw 0 rfl rfl 19 (by decide) q0 rfl rfl rfl rfl (Nat.le_of_ble_eq_true rfl) rfl dX7_beginsSide_5 (fun H locs hw => ?_)
    refine lv_aload_n hx hb dX7_beginsSide_8 rfl (lv_at hl 0 rfl) ?_
    refine w_get hx hb hts hi7 hown hK hw 0 rfl rfl 19 (by decide) q0 rfl (v := .int (a1 - 48)) rfl dX7_beginsSide_9 ?_
    refine lv_iconst (v := 1) hx hb dX7_beginsSide_12 (by decide) ?_
    refine lv_bipush (v := 9) hx hb dX7_beginsSide_13 (by decide) ?_
    obtain ⟨x1, g2, hf⟩ := bn1_e hf
    have fr := fr_X7_S o cA ((sI oM 19 (a1 - 48)))
    refine go_i (run_s (As := [.int (a1 - 48), .int 1, .int 9]) (rest := []) ⟨hx, hb, hml, hown, hts⟩ (k_X7_within l D cA (a1 - 48) 1 9 x1 g2 H.size) (va_cwS 3 hts gX7_beginsSide_X7_within rfl rfl rfl hd_X7_within ⟨Nat.le_of_ble_eq_true rfl, Nat.le_of_ble_eq_true rfl⟩) fr hw hK hA rfl hl.1 rfl (Nat.le_of_ble_eq_true rfl) dX7_beginsSide_15 ⟨Nat.zero_le _, Nat.zero_le _⟩) fr hw hA (fun H locs hw => ?_)
    refine lv_istore_n (lv' := [(3, .int x1), (0, .ref (o 0)), (1, .int a1), (2, .int a2)]) hx hb dX7_beginsSide_18 rfl hl (by decide) rfl (fun ls hl => ?_)
    refine lv_aload_n hx hb dX7_beginsSide_19 rfl (lv_at hl 1 rfl) ?_
    refine lv_iload_n hx hb dX7_beginsSide_20 rfl (lv_at hl 0 rfl) ?_
    refine lv_if_eq (tgt := 28) hx hb dX7_beginsSide_21 (by decide) (fun c3 => ?_) (fun c3 => ?_)
    · have hf := if_t c3 hf
      refine lv_aload_n hx hb dX7_beginsSide_28 rfl (lv_at hl 1 rfl) ?_
      refine w_get hx hb hts hi7 hown hK hw 0 rfl rfl 18 (by decide) q1 rfl (v := .int (oM.1 18)) rfl dX7_beginsSide_29 ?_
      refine w_put (ws' := (wX7 o cA ((sI (sI oM 19 (a1 - 48)) 18 (oM.1 18))))) hx hb hts hi7 tyX7 tyX7_ok nmX7 hown hK hw 0 rfl rfl 18 (by decide) q1 rfl rfl rfl rfl (Nat.le_of_ble_eq_true rfl) rfl dX7_beginsSide_32 (fun H locs hw => ?_)
      refine lv_iload_n hx hb dX7_beginsSide_35 rfl (lv_at hl 0 rfl) ?_
      obtain ⟨bz, hf⟩ := if_n hf
      obtain ⟨e0_, e1_⟩ := sm2 hf
      exact hret _ _ _ _ _ (by rw [← e1_]; exact hw) e0_ (Or.inr bz) dX7_beginsSide_36
    · have hf := if_f c3 hf
      refine lv_iload_n hx hb dX7_beginsSide_24 rfl (lv_at hl 3 rfl) ?_
      refine lv_goto (tgt := 32) hx hb dX7_beginsSide_25 (by decide) ?_
      refine w_put (ws' := (wX7 o cA ((sI (sI oM 19 (a1 - 48)) 18 a2)))) hx hb hts hi7 tyX7 tyX7_ok nmX7 hown hK hw 0 rfl rfl 18 (by decide) q1 rfl rfl rfl rfl (Nat.le_of_ble_eq_true rfl) rfl dX7_beginsSide_32 (fun H locs hw => ?_)
      refine lv_iload_n hx hb dX7_beginsSide_35 rfl (lv_at hl 0 rfl) ?_
      obtain ⟨bz, hf⟩ := if_n hf
      obtain ⟨e0_, e1_⟩ := sm2 hf
      exact hret _ _ _ _ _ (by rw [← e1_]; exact hw) e0_ (Or.inr bz) dX7_beginsSide_36
  rw [hH, hlc] at goal
  exact goal
abbrev rmX7_goesOnSide : Room := { frames := 1, cells := 0, slots := 0, locals := 22 }
theorem hd_X7_goesOnSide : yX7_goesOnSide.cls = RX7 ∧ yX7_goesOnSide.cls ≠ "java/lang/invoke/MethodHandle" ∧ yX7_goesOnSide.cls ≠ "java/lang/invoke/VarHandle" ∧ (parseMethodDescriptor yX7_goesOnSide.desc).map (fun d => d.parameters.length) = some 2 := by decide +kernel
set_option maxHeartbeats 4000000 in
set_option maxRecDepth 100000 in
theorem k_X7_goesOnSide (l : Launch) (D : va_G) (cA : ClassId) (o : Nat → Nat) (oM : St) (a1 : Int32) (a2 : Int32) (r : Int32) (oM' : St) (hf : f_X7_goesOnSide oM a1 a2 = some (r, oM')) : Mi l yX7_goesOnSide wsX7_goesOnSide rmX7_goesOnSide D cA z_0 [.ref (o 0), .int a1, .int a2] (wX7 o cA oM) r (wX7 o cA oM') := by
  refine Mi.of (cc := cX7_goesOnSide) (maxL := 5) (ret := (some .boolean)) (plainFor_of_name (by decide)) rfl (Nat.le_of_ble_eq_true rfl) (Or.inr rfl) ?_
  intro p e s m below meth c A Q hx hb hml hown hts hK hA hZ hret ls hl hw
  replace hown : s.vm.findClass RX7 = some m.cls := hown
  have hl : lv_has ls 5 [(0, .ref (o 0)), (1, .int a1), (2, .int a2)] := hl
  have hZo := z_0_ok
  have hi7 : ∀ w ∈ wsX70, w ∈ wsX7_goesOnSide := fun w h => List.mem_cons_of_mem _ (List.mem_append_right _ h)
  have q0 := hts (.fieldLink RX7 66 "ArcRingsModel" "newSide" "I") (by decide +kernel)
  have q1 := hts (.fieldLink RX7 69 "ArcRingsModel" "stage" "I") (by decide +kernel)
  unfold f_X7_goesOnSide at hf
  obtain ⟨H, hH⟩ : ∃ H, H = s.heap := ⟨_, rfl⟩
  obtain ⟨locs, hlc⟩ : ∃ locs : List Loc, locs = [] := ⟨_, rfl⟩
  have hw : Wd D A s.heap H locs (wX7 o cA oM) := by rw [hH, hlc]; exact hw
  have goal : W p l e rmX7_goesOnSide s m ([.ref (o 0), .int a1, .int a2] : List Value).toArray below meth c H locs 0 0 Q (F0 m 0 ls []) := by
    clear hH hlc
    refine lv_iload_n hx hb dX7_goesOnSide_0 rfl (lv_at hl 1 rfl) ?_
    refine lv_iload_n hx hb dX7_goesOnSide_1 rfl (lv_at hl 2 rfl) ?_
    refine lv_icmp_ne (tgt := 29) hx hb dX7_goesOnSide_2 (by decide) (fun c1 => ?_) (fun c1 => ?_)
    · have hf := if_f c1 hf
      refine lv_iload_n hx hb dX7_goesOnSide_29 rfl (lv_at hl 1 rfl) ?_
      refine lv_bipush (v := 48) hx hb dX7_goesOnSide_30 (by decide) ?_
      refine lv_isub hx hb dX7_goesOnSide_32 ?_
      refine lv_istore_n (lv' := [(3, .int (a1 - 48)), (0, .ref (o 0)), (1, .int a1), (2, .int a2)]) hx hb dX7_goesOnSide_33 rfl hl (by decide) rfl (fun ls hl => ?_)
      refine lv_aload_n hx hb dX7_goesOnSide_34 rfl (lv_at hl 1 rfl) ?_
      refine w_get hx hb hts hi7 hown hK hw 0 rfl rfl 19 (by decide) q0 rfl (v := .int (oM.1 19)) rfl dX7_goesOnSide_35 ?_
      refine lv_iconst (v := 4) hx hb dX7_goesOnSide_38 (by decide) ?_
      refine lv_icmp_ge (tgt := 75) hx hb dX7_goesOnSide_39 (by decide) (fun c2 => ?_) (fun c2 => ?_)
      · have hf := if_t c2 hf
        refine lv_iconst (v := 0) hx hb dX7_goesOnSide_75 (by decide) ?_
        refine lv_istore (lv' := [(4, .int 0), (3, .int (a1 - 48)), (0, .ref (o 0)), (1, .int a1), (2, .int a2)]) hx hb dX7_goesOnSide_76 hl (by decide) rfl (fun ls hl => ?_)
        refine lv_aload_n hx hb dX7_goesOnSide_78 rfl (lv_at hl 2 rfl) ?_
        refine lv_iload hx hb dX7_goesOnSide_79 (lv_at hl 0 rfl) ?_
        refine lv_if_eq (tgt := 96) hx hb dX7_goesOnSide_81 (by decide) (fun c3 => ?_) (fun c3 => ?_)
        rotate_left
        · exact absurd c3 (by decide)
        refine lv_aload_n hx hb dX7_goesOnSide_96 rfl (lv_at hl 2 rfl) ?_
        refine w_get hx hb hts hi7 hown hK hw 0 rfl rfl 19 (by decide) q0 rfl (v := .int (oM.1 19)) rfl dX7_goesOnSide_97 ?_
        refine w_put (ws' := (wX7 o cA ((sI oM 19 (oM.1 19))))) hx hb hts hi7 tyX7 tyX7_ok nmX7 hown hK hw 0 rfl rfl 19 (by decide) q0 rfl rfl rfl rfl (Nat.le_of_ble_eq_true rfl) rfl dX7_goesOnSide_100 (fun H locs hw => ?_)
        refine lv_iload hx hb dX7_goesOnSide_103 (lv_at hl 0 rfl) ?_
        obtain ⟨e0_, e1_⟩ := sm2 hf
        exact hret _ _ _ _ _ (by rw [← e1_]; exact hw) e0_ (Or.inr (Or.inl rfl)) dX7_goesOnSide_105
      · have hf := if_f c2 hf
        refine lv_iload_n hx hb dX7_goesOnSide_42 rfl (lv_at hl 0 rfl) ?_
        refine lv_iconst (v := 0) hx hb dX7_goesOnSide_43 (by decide) ?_
        refine lv_bipush (v := 9) hx hb dX7_goesOnSide_44 (by decide) ?_
        obtain ⟨x4, g5, hf⟩ := bn1_e hf
        have fr := fr_X7_S o cA oM
        refine go_i (run_s (As := [.int (a1 - 48), .int 0, .int 9]) (rest := []) ⟨hx, hb, hml, hown, hts⟩ (k_X7_within l D cA (a1 - 48) 0 9 x4 g5 H.size) (va_cwS 3 hts gX7_goesOnSide_X7_within rfl rfl rfl hd_X7_within ⟨Nat.le_of_ble_eq_true rfl, Nat.le_of_ble_eq_true rfl⟩) fr hw hK hA rfl hl.1 rfl (Nat.le_of_ble_eq_true rfl) dX7_goesOnSide_46 ⟨Nat.zero_le _, Nat.zero_le _⟩) fr hw hA (fun H locs hw => ?_)
        refine lv_if_eq (tgt := 75) hx hb dX7_goesOnSide_49 (by decide) (fun c6 => ?_) (fun c6 => ?_)
        · have hf := if_t c6 hf
          refine lv_iconst (v := 0) hx hb dX7_goesOnSide_75 (by decide) ?_
          refine lv_istore (lv' := [(4, .int 0), (3, .int (a1 - 48)), (0, .ref (o 0)), (1, .int a1), (2, .int a2)]) hx hb dX7_goesOnSide_76 hl (by decide) rfl (fun ls hl => ?_)
          refine lv_aload_n hx hb dX7_goesOnSide_78 rfl (lv_at hl 2 rfl) ?_
          refine lv_iload hx hb dX7_goesOnSide_79 (lv_at hl 0 rfl) ?_
          refine lv_if_eq (tgt := 96) hx hb dX7_goesOnSide_81 (by decide) (fun c7 => ?_) (fun c7 => ?_)
          rotate_left
          · exact absurd c7 (by decide)
          refine lv_aload_n hx hb dX7_goesOnSide_96 rfl (lv_at hl 2 rfl) ?_
          refine w_get hx hb hts hi7 hown hK hw 0 rfl rfl 19 (by decide) q0 rfl (v := .int (oM.1 19)) rfl dX7_goesOnSide_97 ?_
          refine w_put (ws' := (wX7 o cA ((sI oM 19 (oM.1 19))))) hx hb hts hi7 tyX7 tyX7_ok nmX7 hown hK hw 0 rfl rfl 19 (by decide) q0 rfl rfl rfl rfl (Nat.le_of_ble_eq_true rfl) rfl dX7_goesOnSide_100 (fun H locs hw => ?_)
          refine lv_iload hx hb dX7_goesOnSide_103 (lv_at hl 0 rfl) ?_
          obtain ⟨e0_, e1_⟩ := sm2 hf
          exact hret _ _ _ _ _ (by rw [← e1_]; exact hw) e0_ (Or.inr (Or.inl rfl)) dX7_goesOnSide_105
        · have hf := if_f c6 hf
          refine lv_bipush (v := 10) hx hb dX7_goesOnSide_52 (by decide) ?_
          refine lv_aload_n hx hb dX7_goesOnSide_54 rfl (lv_at hl 1 rfl) ?_
          refine w_get hx hb hts hi7 hown hK hw 0 rfl rfl 19 (by decide) q0 rfl (v := .int (oM.1 19)) rfl dX7_goesOnSide_55 ?_
          refine lv_imul hx hb dX7_goesOnSide_58 ?_
          refine lv_iload_n hx hb dX7_goesOnSide_59 rfl (lv_at hl 0 rfl) ?_
          refine lv_iadd hx hb dX7_goesOnSide_60 ?_
          refine lv_bipush (v := 10) hx hb dX7_goesOnSide_61 (by decide) ?_
          refine lv_bipush (v := 31) hx hb dX7_goesOnSide_63 (by decide) ?_
          obtain ⟨x8, g9, hf⟩ := bn1_e hf
          have fr := fr_X7_S o cA oM
          refine go_i (run_s (As := [.int ((10 * (oM.1 19)) + (a1 - 48)), .int 10, .int 31]) (rest := []) ⟨hx, hb, hml, hown, hts⟩ (k_X7_within l D cA ((10 * (oM.1 19)) + (a1 - 48)) 10 31 x8 g9 H.size) (va_cwS 3 hts gX7_goesOnSide_X7_within rfl rfl rfl hd_X7_within ⟨Nat.le_of_ble_eq_true rfl, Nat.le_of_ble_eq_true rfl⟩) fr hw hK hA rfl hl.1 rfl (Nat.le_of_ble_eq_true rfl) dX7_goesOnSide_65 ⟨Nat.zero_le _, Nat.zero_le _⟩) fr hw hA (fun H locs hw => ?_)
          refine lv_if_eq (tgt := 75) hx hb dX7_goesOnSide_68 (by decide) (fun c10 => ?_) (fun c10 => ?_)
          · have hf := if_t c10 hf
            refine lv_iconst (v := 0) hx hb dX7_goesOnSide_75 (by decide) ?_
            refine lv_istore (lv' := [(4, .int 0), (3, .int (a1 - 48)), (0, .ref (o 0)), (1, .int a1), (2, .int a2)]) hx hb dX7_goesOnSide_76 hl (by decide) rfl (fun ls hl => ?_)
            refine lv_aload_n hx hb dX7_goesOnSide_78 rfl (lv_at hl 2 rfl) ?_
            refine lv_iload hx hb dX7_goesOnSide_79 (lv_at hl 0 rfl) ?_
            refine lv_if_eq (tgt := 96) hx hb dX7_goesOnSide_81 (by decide) (fun c11 => ?_) (fun c11 => ?_)
            rotate_left
            · exact absurd c11 (by decide)
            refine lv_aload_n hx hb dX7_goesOnSide_96 rfl (lv_at hl 2 rfl) ?_
            refine w_get hx hb hts hi7 hown hK hw 0 rfl rfl 19 (by decide) q0 rfl (v := .int (oM.1 19)) rfl dX7_goesOnSide_97 ?_
            refine w_put (ws' := (wX7 o cA ((sI oM 19 (oM.1 19))))) hx hb hts hi7 tyX7 tyX7_ok nmX7 hown hK hw 0 rfl rfl 19 (by decide) q0 rfl rfl rfl rfl (Nat.le_of_ble_eq_true rfl) rfl dX7_goesOnSide_100 (fun H locs hw => ?_)
            refine lv_iload hx hb dX7_goesOnSide_103 (lv_at hl 0 rfl) ?_
            obtain ⟨e0_, e1_⟩ := sm2 hf
            exact hret _ _ _ _ _ (by rw [← e1_]; exact hw) e0_ (Or.inr (Or.inl rfl)) dX7_goesOnSide_105
          · have hf := if_f c10 hf
            refine lv_iconst (v := 1) hx hb dX7_goesOnSide_71 (by decide) ?_
            refine lv_goto (tgt := 76) hx hb dX7_goesOnSide_72 (by decide) ?_
            refine lv_istore (lv' := [(4, .int 1), (3, .int (a1 - 48)), (0, .ref (o 0)), (1, .int a1), (2, .int a2)]) hx hb dX7_goesOnSide_76 hl (by decide) rfl (fun ls hl => ?_)
            refine lv_aload_n hx hb dX7_goesOnSide_78 rfl (lv_at hl 2 rfl) ?_
            refine lv_iload hx hb dX7_goesOnSide_79 (lv_at hl 0 rfl) ?_
            refine lv_if_eq (tgt := 96) hx hb dX7_goesOnSide_81 (by decide) (fun c12 => ?_) (fun c12 => ?_)
            · exact absurd c12 (by decide)
            refine lv_bipush (v := 10) hx hb dX7_goesOnSide_84 (by decide) ?_
            refine lv_aload_n hx hb dX7_goesOnSide_86 rfl (lv_at hl 2 rfl) ?_
            refine w_get hx hb hts hi7 hown hK hw 0 rfl rfl 19 (by decide) q0 rfl (v := .int (oM.1 19)) rfl dX7_goesOnSide_87 ?_
            refine lv_imul hx hb dX7_goesOnSide_90 ?_
            refine lv_iload_n hx hb dX7_goesOnSide_91 rfl (lv_at hl 1 rfl) ?_
            refine lv_iadd hx hb dX7_goesOnSide_92 ?_
            refine lv_goto (tgt := 100) hx hb dX7_goesOnSide_93 (by decide) ?_
            refine w_put (ws' := (wX7 o cA ((sI oM 19 ((10 * (oM.1 19)) + (a1 - 48)))))) hx hb hts hi7 tyX7 tyX7_ok nmX7 hown hK hw 0 rfl rfl 19 (by decide) q0 rfl rfl rfl rfl (Nat.le_of_ble_eq_true rfl) rfl dX7_goesOnSide_100 (fun H locs hw => ?_)
            refine lv_iload hx hb dX7_goesOnSide_103 (lv_at hl 0 rfl) ?_
            obtain ⟨e0_, e1_⟩ := sm2 hf
            exact hret _ _ _ _ _ (by rw [← e1_]; exact hw) e0_ (Or.inr (Or.inr rfl)) dX7_goesOnSide_105
    · have hf := if_t c1 hf
      refine lv_aload_n hx hb dX7_goesOnSide_5 rfl (lv_at hl 0 rfl) ?_
      refine lv_dup hx hb dX7_goesOnSide_6 rfl ?_
      refine w_get hx hb hts hi7 hown hK hw 0 rfl rfl 18 (by decide) q1 rfl (v := .int (oM.1 18)) rfl dX7_goesOnSide_7 ?_
      refine lv_iconst (v := 1) hx hb dX7_goesOnSide_10 (by decide) ?_
      refine lv_iadd hx hb dX7_goesOnSide_11 ?_
      refine w_put (ws' := (wX7 o cA ((sI oM 18 ((oM.1 18) + 1))))) hx hb hts hi7 tyX7 tyX7_ok nmX7 hown hK hw 0 rfl rfl 18 (by decide) q1 rfl rfl rfl rfl (Nat.le_of_ble_eq_true rfl) rfl dX7_goesOnSide_12 (fun H locs hw => ?_)
      refine lv_aload_n hx hb dX7_goesOnSide_15 rfl (lv_at hl 0 rfl) ?_
      refine w_get hx hb hts hi7 hown hK hw 0 rfl rfl 19 (by decide) q0 rfl (v := .int (oM.1 19)) rfl dX7_goesOnSide_16 ?_
      refine lv_iconst (v := 4) hx hb dX7_goesOnSide_19 (by decide) ?_
      refine lv_icmp_lt (tgt := 27) hx hb dX7_goesOnSide_20 (by decide) (fun c13 => ?_) (fun c13 => ?_)
      · have hf := if_t c13 hf
        refine lv_iconst (v := 0) hx hb dX7_goesOnSide_27 (by decide) ?_
        obtain ⟨e0_, e1_⟩ := sm2 hf
        exact hret _ _ _ _ _ (by rw [← e1_]; exact hw) e0_ (Or.inr (Or.inl rfl)) dX7_goesOnSide_28
      · have hf := if_f c13 hf
        refine lv_iconst (v := 1) hx hb dX7_goesOnSide_23 (by decide) ?_
        refine lv_goto (tgt := 28) hx hb dX7_goesOnSide_24 (by decide) ?_
        obtain ⟨e0_, e1_⟩ := sm2 hf
        exact hret _ _ _ _ _ (by rw [← e1_]; exact hw) e0_ (Or.inr (Or.inr rfl)) dX7_goesOnSide_28
  rw [hH, hlc] at goal
  exact goal
abbrev rmX7_newIn : Room := { frames := 0, cells := 0, slots := 0, locals := 0 }
theorem hd_X7_newIn : yX7_newIn.cls = RX7 ∧ yX7_newIn.cls ≠ "java/lang/invoke/MethodHandle" ∧ yX7_newIn.cls ≠ "java/lang/invoke/VarHandle" ∧ (parseMethodDescriptor yX7_newIn.desc).map (fun d => d.parameters.length) = some 1 := by decide +kernel
set_option maxHeartbeats 4000000 in
set_option maxRecDepth 100000 in
theorem k_X7_newIn (l : Launch) (D : va_G) (cA : ClassId) (o : Nat → Nat) (oM : St) (a1 : Int32) (r : Int32) (hf : f_X7_newIn oM a1 = some (r)) : Mi l yX7_newIn wsX7_newIn rmX7_newIn D cA z_0 [.ref (o 0), .int a1] (wX7 o cA oM) r (wX7 o cA oM) := by
  refine Mi.of (cc := cX7_newIn) (maxL := 4) (ret := (some .int)) (plainFor_of_name (by decide)) rfl (Nat.le_of_ble_eq_true rfl) (Or.inl rfl) ?_
  intro p e s m below meth c A Q hx hb hml hown hts hK hA hZ hret ls hl hw
  replace hown : s.vm.findClass RX7 = some m.cls := hown
  have hl : lv_has ls 4 [(0, .ref (o 0)), (1, .int a1)] := hl
  have hZo := z_0_ok
  have hi7 : ∀ w ∈ wsX70, w ∈ wsX7_newIn := fun w h => List.mem_cons_of_mem _ (List.mem_append_right _ h)
  have q0 := hts (.fieldLink RX7 72 "ArcRingsModel" "newDots" "I") (by decide +kernel)
  have q1 := hts (.fieldLink RX7 37 "ArcRingsModel" "newX" "[I") (by decide +kernel)
  have h_L4 : ∀ (v1 : Int32), ∀ (n : Nat) (v2 : Int32) (v3 : Int32), f_X7_newIn_L4 oM v1 n v2 v3 = some (r) → ∀ (H : Heap) (locs : List Loc) (ls : Array Slot), Wd D A s.heap H locs (wX7 o cA oM) → lv_has ls 4 [(0, .ref (o 0)), (1, .int v1), (2, .int v2), (3, .int v3)] → W p l e rmX7_newIn s m ([.ref (o 0), .int a1] : List Value).toArray below meth c H locs 0 0 Q (F0 m 4 ls []) := by
    intro v1 n
    induction n with
    | zero =>
      intro v2 v3 hf
      have hf : none = some (r) := hf
      cases hf
    | succ n ih =>
      intro v2 v3 hf H locs ls hw hl
      have hf := (f_X7_newIn_L4_s oM v1 n v2 v3).symm.trans hf
      refine lv_iload_n hx hb dX7_newIn_4 rfl (lv_at hl 3 rfl) ?_
      refine lv_aload_n hx hb dX7_newIn_5 rfl (lv_at hl 0 rfl) ?_
      refine w_get hx hb hts hi7 hown hK hw 0 rfl rfl 22 (by decide) q0 rfl (v := .int (oM.1 22)) rfl dX7_newIn_6 ?_
      refine lv_icmp_ge (tgt := 36) hx hb dX7_newIn_9 (by decide) (fun c1 => ?_) (fun c1 => ?_)
      · have hf := if_t c1 hf
        refine lv_iload_n hx hb dX7_newIn_36 rfl (lv_at hl 2 rfl) ?_
        have e0_ := sm1 hf
        exact hret _ _ _ _ _ hw e0_ (Or.inl rfl) dX7_newIn_37
      · have hf := if_f c1 hf
        refine lv_iload_n hx hb dX7_newIn_12 rfl (lv_at hl 2 rfl) ?_
        refine lv_aload_n hx hb dX7_newIn_13 rfl (lv_at hl 0 rfl) ?_
        refine w_get hx hb hts hi7 hown hK hw 0 rfl rfl 23 (by decide) q1 rfl (v := .ref (o 10)) rfl dX7_newIn_14 ?_
        refine lv_iload_n hx hb dX7_newIn_17 rfl (lv_at hl 3 rfl) ?_
        obtain ⟨x2, g3, hf⟩ := bn1_e hf
        refine w_ald hx hb hK hw 10 rfl g3 dX7_newIn_18 ?_
        refine lv_iload_n hx hb dX7_newIn_19 rfl (lv_at hl 1 rfl) ?_
        refine lv_icmp_ne (tgt := 27) hx hb dX7_newIn_20 (by decide) (fun c4 => ?_) (fun c4 => ?_)
        · have hf := if_f c4 hf
          refine lv_iconst (v := 0) hx hb dX7_newIn_27 (by decide) ?_
          refine lv_iadd hx hb dX7_newIn_28 ?_
          refine lv_istore_n (lv' := [(2, .int (v2 + 0)), (0, .ref (o 0)), (1, .int v1), (3, .int v3)]) hx hb dX7_newIn_29 rfl hl (by decide) rfl (fun ls hl => ?_)
          refine lv_iinc (v := v3 + 1) (lv' := [(3, .int (v3 + 1)), (2, .int (v2 + 0)), (0, .ref (o 0)), (1, .int v1)]) hx hb dX7_newIn_30 hl (k := 3) rfl (by rfl) (by decide) rfl (fun ls hl => ?_)
          refine lv_goto (tgt := 4) hx hb dX7_newIn_33 (by decide) ?_
          exact ih (v2 + 0) (v3 + 1) hf H locs ls hw (lv_sub hl [2, 3, 1, 0] rfl)
        · have hf := if_t c4 hf
          refine lv_iconst (v := 1) hx hb dX7_newIn_23 (by decide) ?_
          refine lv_goto (tgt := 28) hx hb dX7_newIn_24 (by decide) ?_
          refine lv_iadd hx hb dX7_newIn_28 ?_
          refine lv_istore_n (lv' := [(2, .int (v2 + 1)), (0, .ref (o 0)), (1, .int v1), (3, .int v3)]) hx hb dX7_newIn_29 rfl hl (by decide) rfl (fun ls hl => ?_)
          refine lv_iinc (v := v3 + 1) (lv' := [(3, .int (v3 + 1)), (2, .int (v2 + 1)), (0, .ref (o 0)), (1, .int v1)]) hx hb dX7_newIn_30 hl (k := 3) rfl (by rfl) (by decide) rfl (fun ls hl => ?_)
          refine lv_goto (tgt := 4) hx hb dX7_newIn_33 (by decide) ?_
          exact ih (v2 + 1) (v3 + 1) hf H locs ls hw (lv_sub hl [2, 3, 1, 0] rfl)
  unfold f_X7_newIn at hf
  obtain ⟨H, hH⟩ : ∃ H, H = s.heap := ⟨_, rfl⟩
  obtain ⟨locs, hlc⟩ : ∃ locs : List Loc, locs = [] := ⟨_, rfl⟩
  have hw : Wd D A s.heap H locs (wX7 o cA oM) := by rw [hH, hlc]; exact hw
  have goal : W p l e rmX7_newIn s m ([.ref (o 0), .int a1] : List Value).toArray below meth c H locs 0 0 Q (F0 m 0 ls []) := by
    clear hH hlc
    refine lv_iconst (v := 0) hx hb dX7_newIn_0 (by decide) ?_
    refine lv_istore_n (lv' := [(2, .int 0), (0, .ref (o 0)), (1, .int a1)]) hx hb dX7_newIn_1 rfl hl (by decide) rfl (fun ls hl => ?_)
    refine lv_iconst (v := 0) hx hb dX7_newIn_2 (by decide) ?_
    refine lv_istore_n (lv' := [(3, .int 0), (2, .int 0), (0, .ref (o 0)), (1, .int a1)]) hx hb dX7_newIn_3 rfl hl (by decide) rfl (fun ls hl => ?_)
    exact h_L4 a1 _ 0 0 hf H locs ls hw (lv_sub hl [2, 3, 1, 0] rfl)
  rw [hH, hlc] at goal
  exact goal
abbrev rmX7_isNewAt : Room := { frames := 0, cells := 0, slots := 0, locals := 0 }
theorem hd_X7_isNewAt : yX7_isNewAt.cls = RX7 ∧ yX7_isNewAt.cls ≠ "java/lang/invoke/MethodHandle" ∧ yX7_isNewAt.cls ≠ "java/lang/invoke/VarHandle" ∧ (parseMethodDescriptor yX7_isNewAt.desc).map (fun d => d.parameters.length) = some 2 := by decide +kernel
set_option maxHeartbeats 4000000 in
set_option maxRecDepth 100000 in
theorem k_X7_isNewAt (l : Launch) (D : va_G) (cA : ClassId) (o : Nat → Nat) (oM : St) (a1 : Int32) (a2 : Int32) (r : Int32) (hf : f_X7_isNewAt oM a1 a2 = some (r)) : Mi l yX7_isNewAt wsX7_isNewAt rmX7_isNewAt D cA z_0 [.ref (o 0), .int a1, .int a2] (wX7 o cA oM) r (wX7 o cA oM) := by
  refine Mi.of (cc := cX7_isNewAt) (maxL := 5) (ret := (some .boolean)) (plainFor_of_name (by decide)) rfl (Nat.le_of_ble_eq_true rfl) (Or.inr rfl) ?_
  intro p e s m below meth c A Q hx hb hml hown hts hK hA hZ hret ls hl hw
  replace hown : s.vm.findClass RX7 = some m.cls := hown
  have hl : lv_has ls 5 [(0, .ref (o 0)), (1, .int a1), (2, .int a2)] := hl
  have hZo := z_0_ok
  have hi7 : ∀ w ∈ wsX70, w ∈ wsX7_isNewAt := fun w h => List.mem_cons_of_mem _ (List.mem_append_right _ h)
  have q0 := hts (.fieldLink RX7 72 "ArcRingsModel" "newDots" "I") (by decide +kernel)
  have q1 := hts (.fieldLink RX7 37 "ArcRingsModel" "newX" "[I") (by decide +kernel)
  have q2 := hts (.fieldLink RX7 40 "ArcRingsModel" "newY" "[I") (by decide +kernel)
  have h_L5 : ∀ (v1 : Int32) (v2 : Int32), ∀ (n : Nat) (v3 : Int32) (v4 : Int32), f_X7_isNewAt_L5 oM v1 v2 n v3 v4 = some (r) → ∀ (H : Heap) (locs : List Loc) (ls : Array Slot), Wd D A s.heap H locs (wX7 o cA oM) → lv_has ls 5 [(0, .ref (o 0)), (1, .int v1), (2, .int v2), (3, .int v3), (4, .int v4)] → W p l e rmX7_isNewAt s m ([.ref (o 0), .int a1, .int a2] : List Value).toArray below meth c H locs 0 0 Q (F0 m 5 ls []) := by
    intro v1 v2 n
    induction n with
    | zero =>
      intro v3 v4 hf
      have hf : none = some (r) := hf
      cases hf
    | succ n ih =>
      intro v3 v4 hf H locs ls hw hl
      have hf := (f_X7_isNewAt_L5_s oM v1 v2 n v3 v4).symm.trans hf
      refine lv_iload hx hb dX7_isNewAt_5 (lv_at hl 4 rfl) ?_
      refine lv_aload_n hx hb dX7_isNewAt_7 rfl (lv_at hl 0 rfl) ?_
      refine w_get hx hb hts hi7 hown hK hw 0 rfl rfl 22 (by decide) q0 rfl (v := .int (oM.1 22)) rfl dX7_isNewAt_8 ?_
      refine lv_icmp_ge (tgt := 52) hx hb dX7_isNewAt_11 (by decide) (fun c1 => ?_) (fun c1 => ?_)
      · have hf := if_t c1 hf
        refine lv_iload_n hx hb dX7_isNewAt_52 rfl (lv_at hl 3 rfl) ?_
        obtain ⟨bz, hf⟩ := if_n hf
        have e0_ := sm1 hf
        exact hret _ _ _ _ _ hw e0_ (Or.inr bz) dX7_isNewAt_53
      · have hf := if_f c1 hf
        refine lv_iload_n hx hb dX7_isNewAt_14 rfl (lv_at hl 3 rfl) ?_
        refine lv_if_ne (tgt := 40) hx hb dX7_isNewAt_15 (by decide) (fun c2 => ?_) (fun c2 => ?_)
        · have hf := if_f c2 hf
          refine lv_iconst (v := 1) hx hb dX7_isNewAt_40 (by decide) ?_
          refine lv_goto (tgt := 45) hx hb dX7_isNewAt_41 (by decide) ?_
          refine lv_istore_n (lv' := [(3, .int 1), (0, .ref (o 0)), (1, .int v1), (2, .int v2), (4, .int v4)]) hx hb dX7_isNewAt_45 rfl hl (by decide) rfl (fun ls hl => ?_)
          refine lv_iinc (v := v4 + 1) (lv' := [(4, .int (v4 + 1)), (3, .int 1), (0, .ref (o 0)), (1, .int v1), (2, .int v2)]) hx hb dX7_isNewAt_46 hl (k := 4) rfl (by rfl) (by decide) rfl (fun ls hl => ?_)
          refine lv_goto (tgt := 5) hx hb dX7_isNewAt_49 (by decide) ?_
          exact ih 1 (v4 + 1) hf H locs ls hw (lv_sub hl [2, 3, 4, 1, 0] rfl)
        · have hf := if_t c2 hf
          refine lv_aload_n hx hb dX7_isNewAt_18 rfl (lv_at hl 0 rfl) ?_
          refine w_get hx hb hts hi7 hown hK hw 0 rfl rfl 23 (by decide) q1 rfl (v := .ref (o 10)) rfl dX7_isNewAt_19 ?_
          refine lv_iload hx hb dX7_isNewAt_22 (lv_at hl 4 rfl) ?_
          obtain ⟨x3, g4, hf⟩ := bn1_e hf
          refine w_ald hx hb hK hw 10 rfl g4 dX7_isNewAt_24 ?_
          refine lv_iload_n hx hb dX7_isNewAt_25 rfl (lv_at hl 1 rfl) ?_
          refine lv_icmp_ne (tgt := 44) hx hb dX7_isNewAt_26 (by decide) (fun c5 => ?_) (fun c5 => ?_)
          · have hf := if_f c5 hf
            refine lv_iconst (v := 0) hx hb dX7_isNewAt_44 (by decide) ?_
            refine lv_istore_n (lv' := [(3, .int 0), (0, .ref (o 0)), (1, .int v1), (2, .int v2), (4, .int v4)]) hx hb dX7_isNewAt_45 rfl hl (by decide) rfl (fun ls hl => ?_)
            refine lv_iinc (v := v4 + 1) (lv' := [(4, .int (v4 + 1)), (3, .int 0), (0, .ref (o 0)), (1, .int v1), (2, .int v2)]) hx hb dX7_isNewAt_46 hl (k := 4) rfl (by rfl) (by decide) rfl (fun ls hl => ?_)
            refine lv_goto (tgt := 5) hx hb dX7_isNewAt_49 (by decide) ?_
            exact ih 0 (v4 + 1) hf H locs ls hw (lv_sub hl [2, 3, 4, 1, 0] rfl)
          · have hf := if_t c5 hf
            refine lv_aload_n hx hb dX7_isNewAt_29 rfl (lv_at hl 0 rfl) ?_
            refine w_get hx hb hts hi7 hown hK hw 0 rfl rfl 24 (by decide) q2 rfl (v := .ref (o 11)) rfl dX7_isNewAt_30 ?_
            refine lv_iload hx hb dX7_isNewAt_33 (lv_at hl 4 rfl) ?_
            obtain ⟨x6, g7, hf⟩ := bn1_e hf
            refine w_ald hx hb hK hw 11 rfl g7 dX7_isNewAt_35 ?_
            refine lv_iload_n hx hb dX7_isNewAt_36 rfl (lv_at hl 2 rfl) ?_
            refine lv_icmp_ne (tgt := 44) hx hb dX7_isNewAt_37 (by decide) (fun c8 => ?_) (fun c8 => ?_)
            · have hf := if_f c8 hf
              refine lv_iconst (v := 0) hx hb dX7_isNewAt_44 (by decide) ?_
              refine lv_istore_n (lv' := [(3, .int 0), (0, .ref (o 0)), (1, .int v1), (2, .int v2), (4, .int v4)]) hx hb dX7_isNewAt_45 rfl hl (by decide) rfl (fun ls hl => ?_)
              refine lv_iinc (v := v4 + 1) (lv' := [(4, .int (v4 + 1)), (3, .int 0), (0, .ref (o 0)), (1, .int v1), (2, .int v2)]) hx hb dX7_isNewAt_46 hl (k := 4) rfl (by rfl) (by decide) rfl (fun ls hl => ?_)
              refine lv_goto (tgt := 5) hx hb dX7_isNewAt_49 (by decide) ?_
              exact ih 0 (v4 + 1) hf H locs ls hw (lv_sub hl [2, 3, 4, 1, 0] rfl)
            · have hf := if_t c8 hf
              refine lv_iconst (v := 1) hx hb dX7_isNewAt_40 (by decide) ?_
              refine lv_goto (tgt := 45) hx hb dX7_isNewAt_41 (by decide) ?_
              refine lv_istore_n (lv' := [(3, .int 1), (0, .ref (o 0)), (1, .int v1), (2, .int v2), (4, .int v4)]) hx hb dX7_isNewAt_45 rfl hl (by decide) rfl (fun ls hl => ?_)
              refine lv_iinc (v := v4 + 1) (lv' := [(4, .int (v4 + 1)), (3, .int 1), (0, .ref (o 0)), (1, .int v1), (2, .int v2)]) hx hb dX7_isNewAt_46 hl (k := 4) rfl (by rfl) (by decide) rfl (fun ls hl => ?_)
              refine lv_goto (tgt := 5) hx hb dX7_isNewAt_49 (by decide) ?_
              exact ih 1 (v4 + 1) hf H locs ls hw (lv_sub hl [2, 3, 4, 1, 0] rfl)
  unfold f_X7_isNewAt at hf
  obtain ⟨H, hH⟩ : ∃ H, H = s.heap := ⟨_, rfl⟩
  obtain ⟨locs, hlc⟩ : ∃ locs : List Loc, locs = [] := ⟨_, rfl⟩
  have hw : Wd D A s.heap H locs (wX7 o cA oM) := by rw [hH, hlc]; exact hw
  have goal : W p l e rmX7_isNewAt s m ([.ref (o 0), .int a1, .int a2] : List Value).toArray below meth c H locs 0 0 Q (F0 m 0 ls []) := by
    clear hH hlc
    refine lv_iconst (v := 0) hx hb dX7_isNewAt_0 (by decide) ?_
    refine lv_istore_n (lv' := [(3, .int 0), (0, .ref (o 0)), (1, .int a1), (2, .int a2)]) hx hb dX7_isNewAt_1 rfl hl (by decide) rfl (fun ls hl => ?_)
    refine lv_iconst (v := 0) hx hb dX7_isNewAt_2 (by decide) ?_
    refine lv_istore (lv' := [(4, .int 0), (3, .int 0), (0, .ref (o 0)), (1, .int a1), (2, .int a2)]) hx hb dX7_isNewAt_3 hl (by decide) rfl (fun ls hl => ?_)
    exact h_L5 a1 a2 _ 0 0 hf H locs ls hw (lv_sub hl [2, 3, 4, 1, 0] rfl)
  rw [hH, hlc] at goal
  exact goal
abbrev rmX7_takesX : Room := { frames := 2, cells := 0, slots := 0, locals := 42 }
theorem hd_X7_takesX : yX7_takesX.cls = RX7 ∧ yX7_takesX.cls ≠ "java/lang/invoke/MethodHandle" ∧ yX7_takesX.cls ≠ "java/lang/invoke/VarHandle" ∧ (parseMethodDescriptor yX7_takesX.desc).map (fun d => d.parameters.length) = some 1 := by decide +kernel
set_option maxHeartbeats 4000000 in
set_option maxRecDepth 100000 in
theorem k_X7_takesX (l : Launch) (D : va_G) (cA : ClassId) (o : Nat → Nat) (oM : St) (a1 : Int32) (r : Int32) (oM' : St) (hf : f_X7_takesX oM a1 = some (r, oM')) : Mi l yX7_takesX wsX7_takesX rmX7_takesX D cA z_0 [.ref (o 0), .int a1] (wX7 o cA oM) r (wX7 o cA oM') := by
  refine Mi.of (cc := cX7_takesX) (maxL := 4) (ret := (some .boolean)) (plainFor_of_name (by decide)) rfl (Nat.le_of_ble_eq_true rfl) (Or.inr rfl) ?_
  intro p e s m below meth c A Q hx hb hml hown hts hK hA hZ hret ls hl hw
  replace hown : s.vm.findClass RX7 = some m.cls := hown
  have hl : lv_has ls 4 [(0, .ref (o 0)), (1, .int a1)] := hl
  have hZo := z_0_ok
  have hi7 : ∀ w ∈ wsX70, w ∈ wsX7_takesX := fun w h => List.mem_cons_of_mem _ (List.mem_append_right _ h)
  have q0 := hts (.fieldLink RX7 72 "ArcRingsModel" "newDots" "I") (by decide +kernel)
  have q1 := hts (.fieldLink RX7 79 "ArcRingsModel" "newWide" "I") (by decide +kernel)
  have q2 := hts (.fieldLink RX7 85 "ArcRingsModel" "newHigh" "I") (by decide +kernel)
  have q3 := hts (.fieldLink RX7 37 "ArcRingsModel" "newX" "[I") (by decide +kernel)
  have q4 := hts (.fieldLink RX7 69 "ArcRingsModel" "stage" "I") (by decide +kernel)
  unfold f_X7_takesX at hf
  obtain ⟨H, hH⟩ : ∃ H, H = s.heap := ⟨_, rfl⟩
  obtain ⟨locs, hlc⟩ : ∃ locs : List Loc, locs = [] := ⟨_, rfl⟩
  have hw : Wd D A s.heap H locs (wX7 o cA oM) := by rw [hH, hlc]; exact hw
  have goal : W p l e rmX7_takesX s m ([.ref (o 0), .int a1] : List Value).toArray below meth c H locs 0 0 Q (F0 m 0 ls []) := by
    clear hH hlc
    refine lv_iload_n hx hb dX7_takesX_0 rfl (lv_at hl 1 rfl) ?_
    obtain ⟨x1, g2, hf⟩ := bn1_e hf
    have fr := fr_X7_S o cA oM
    refine go_i (run_s (As := [.int a1]) (rest := []) ⟨hx, hb, hml, hown, hts⟩ (k_X7_numberBy l D cA a1 x1 g2 H.size) (va_cwS 1 hts gX7_takesX_X7_numberBy rfl rfl rfl hd_X7_numberBy ⟨Nat.le_of_ble_eq_true rfl, Nat.le_of_ble_eq_true rfl⟩) fr hw hK hA rfl hl.1 rfl (Nat.le_of_ble_eq_true rfl) dX7_takesX_1 ⟨Nat.zero_le _, Nat.zero_le _⟩) fr hw hA (fun H locs hw => ?_)
    refine lv_istore_n (lv' := [(2, .int x1), (0, .ref (o 0)), (1, .int a1)]) hx hb dX7_takesX_4 rfl hl (by decide) rfl (fun ls hl => ?_)
    refine lv_aload_n hx hb dX7_takesX_5 rfl (lv_at hl 1 rfl) ?_
    refine w_get hx hb hts hi7 hown hK hw 0 rfl rfl 22 (by decide) q0 rfl (v := .int (oM.1 22)) rfl dX7_takesX_6 ?_
    refine lv_bipush (v := 14) hx hb dX7_takesX_9 (by decide) ?_
    refine lv_icmp_ge (tgt := 44) hx hb dX7_takesX_11 (by decide) (fun c3 => ?_) (fun c3 => ?_)
    · have hf := if_t c3 hf
      refine lv_iconst (v := 0) hx hb dX7_takesX_44 (by decide) ?_
      refine lv_istore_n (lv' := [(3, .int 0), (2, .int x1), (0, .ref (o 0)), (1, .int a1)]) hx hb dX7_takesX_45 rfl hl (by decide) rfl (fun ls hl => ?_)
      refine lv_iload_n hx hb dX7_takesX_46 rfl (lv_at hl 0 rfl) ?_
      refine lv_if_eq (tgt := 65) hx hb dX7_takesX_47 (by decide) (fun c4 => ?_) (fun c4 => ?_)
      rotate_left
      · exact absurd c4 (by decide)
      refine lv_iload_n hx hb dX7_takesX_65 rfl (lv_at hl 0 rfl) ?_
      obtain ⟨e0_, e1_⟩ := sm2 hf
      exact hret _ _ _ _ _ (by rw [← e1_]; exact hw) e0_ (Or.inr (Or.inl rfl)) dX7_takesX_66
    · have hf := if_f c3 hf
      refine lv_iload_n hx hb dX7_takesX_14 rfl (lv_at hl 0 rfl) ?_
      refine lv_iconst (v := 0) hx hb dX7_takesX_15 (by decide) ?_
      refine lv_aload_n hx hb dX7_takesX_16 rfl (lv_at hl 1 rfl) ?_
      refine w_get hx hb hts hi7 hown hK hw 0 rfl rfl 20 (by decide) q1 rfl (v := .int (oM.1 20)) rfl dX7_takesX_17 ?_
      refine lv_iconst (v := 1) hx hb dX7_takesX_20 (by decide) ?_
      refine lv_isub hx hb dX7_takesX_21 ?_
      obtain ⟨x5, g6, hf⟩ := bn1_e hf
      have fr := fr_X7_S o cA oM
      refine go_i (run_s (As := [.int x1, .int 0, .int ((oM.1 20) - 1)]) (rest := []) ⟨hx, hb, hml, hown, hts⟩ (k_X7_within l D cA x1 0 ((oM.1 20) - 1) x5 g6 H.size) (va_cwS 3 hts gX7_takesX_X7_within rfl rfl rfl hd_X7_within ⟨Nat.le_of_ble_eq_true rfl, Nat.le_of_ble_eq_true rfl⟩) fr hw hK hA rfl hl.1 rfl (Nat.le_of_ble_eq_true rfl) dX7_takesX_22 ⟨Nat.zero_le _, Nat.zero_le _⟩) fr hw hA (fun H locs hw => ?_)
      refine lv_if_eq (tgt := 44) hx hb dX7_takesX_25 (by decide) (fun c7 => ?_) (fun c7 => ?_)
      · have hf := if_t c7 hf
        refine lv_iconst (v := 0) hx hb dX7_takesX_44 (by decide) ?_
        refine lv_istore_n (lv' := [(3, .int 0), (2, .int x1), (0, .ref (o 0)), (1, .int a1)]) hx hb dX7_takesX_45 rfl hl (by decide) rfl (fun ls hl => ?_)
        refine lv_iload_n hx hb dX7_takesX_46 rfl (lv_at hl 0 rfl) ?_
        refine lv_if_eq (tgt := 65) hx hb dX7_takesX_47 (by decide) (fun c8 => ?_) (fun c8 => ?_)
        rotate_left
        · exact absurd c8 (by decide)
        refine lv_iload_n hx hb dX7_takesX_65 rfl (lv_at hl 0 rfl) ?_
        obtain ⟨e0_, e1_⟩ := sm2 hf
        exact hret _ _ _ _ _ (by rw [← e1_]; exact hw) e0_ (Or.inr (Or.inl rfl)) dX7_takesX_66
      · have hf := if_f c7 hf
        refine lv_aload_n hx hb dX7_takesX_28 rfl (lv_at hl 1 rfl) ?_
        refine lv_iload_n hx hb dX7_takesX_29 rfl (lv_at hl 0 rfl) ?_
        obtain ⟨x9, g10, hf⟩ := bn1_e hf
        have fr := fr_X7_X7_oM o cA oM oM
        refine go_i (run_v (As := [.int x1]) (rest := []) ⟨hx, hb, hml, hown, hts⟩ (k_X7_newIn l D cA o oM x1 x9 g10 H.size) (cwV 1 hts gX7_takesX_X7_newIn rfl rfl rfl hd_X7_newIn ⟨Nat.le_of_ble_eq_true rfl, Nat.le_of_ble_eq_true rfl⟩) fr hw hK hA hZo hZ (ci := 7) rfl rfl rfl rfl hl.1 rfl (Nat.le_of_ble_eq_true rfl) dX7_takesX_30 ⟨Nat.zero_le _, Nat.zero_le _⟩) fr hw hA (fun H locs hw => ?_)
        refine lv_aload_n hx hb dX7_takesX_33 rfl (lv_at hl 1 rfl) ?_
        refine w_get hx hb hts hi7 hown hK hw 0 rfl rfl 21 (by decide) q2 rfl (v := .int (oM.1 21)) rfl dX7_takesX_34 ?_
        refine lv_icmp_ge (tgt := 44) hx hb dX7_takesX_37 (by decide) (fun c11 => ?_) (fun c11 => ?_)
        · have hf := if_t c11 hf
          refine lv_iconst (v := 0) hx hb dX7_takesX_44 (by decide) ?_
          refine lv_istore_n (lv' := [(3, .int 0), (2, .int x1), (0, .ref (o 0)), (1, .int a1)]) hx hb dX7_takesX_45 rfl hl (by decide) rfl (fun ls hl => ?_)
          refine lv_iload_n hx hb dX7_takesX_46 rfl (lv_at hl 0 rfl) ?_
          refine lv_if_eq (tgt := 65) hx hb dX7_takesX_47 (by decide) (fun c12 => ?_) (fun c12 => ?_)
          rotate_left
          · exact absurd c12 (by decide)
          refine lv_iload_n hx hb dX7_takesX_65 rfl (lv_at hl 0 rfl) ?_
          obtain ⟨e0_, e1_⟩ := sm2 hf
          exact hret _ _ _ _ _ (by rw [← e1_]; exact hw) e0_ (Or.inr (Or.inl rfl)) dX7_takesX_66
        · have hf := if_f c11 hf
          refine lv_iconst (v := 1) hx hb dX7_takesX_40 (by decide) ?_
          refine lv_goto (tgt := 45) hx hb dX7_takesX_41 (by decide) ?_
          refine lv_istore_n (lv' := [(3, .int 1), (2, .int x1), (0, .ref (o 0)), (1, .int a1)]) hx hb dX7_takesX_45 rfl hl (by decide) rfl (fun ls hl => ?_)
          refine lv_iload_n hx hb dX7_takesX_46 rfl (lv_at hl 0 rfl) ?_
          refine lv_if_eq (tgt := 65) hx hb dX7_takesX_47 (by decide) (fun c13 => ?_) (fun c13 => ?_)
          · exact absurd c13 (by decide)
          refine lv_aload_n hx hb dX7_takesX_50 rfl (lv_at hl 2 rfl) ?_
          refine w_get hx hb hts hi7 hown hK hw 0 rfl rfl 23 (by decide) q3 rfl (v := .ref (o 10)) rfl dX7_takesX_51 ?_
          refine lv_aload_n hx hb dX7_takesX_54 rfl (lv_at hl 2 rfl) ?_
          refine w_get hx hb hts hi7 hown hK hw 0 rfl rfl 22 (by decide) q0 rfl (v := .int (oM.1 22)) rfl dX7_takesX_55 ?_
          refine lv_iload_n hx hb dX7_takesX_58 rfl (lv_at hl 1 rfl) ?_
          obtain ⟨oM15, g14, hf⟩ := bn1_e hf
          refine w_aws hx hb hK hw 10 rfl g14 (fun z => (wX7 o cA z)) (fun _ => rfl) dX7_takesX_59 (fun H locs hw => ?_)
          refine lv_aload_n hx hb dX7_takesX_60 rfl (lv_at hl 2 rfl) ?_
          refine lv_iconst (v := 5) hx hb dX7_takesX_61 (by decide) ?_
          refine w_put (ws' := (wX7 o cA ((sI oM15 18 5)))) hx hb hts hi7 tyX7 tyX7_ok nmX7 hown hK hw 0 rfl rfl 18 (by decide) q4 rfl rfl rfl rfl (Nat.le_of_ble_eq_true rfl) rfl dX7_takesX_62 (fun H locs hw => ?_)
          refine lv_iload_n hx hb dX7_takesX_65 rfl (lv_at hl 0 rfl) ?_
          obtain ⟨e0_, e1_⟩ := sm2 hf
          exact hret _ _ _ _ _ (by rw [← e1_]; exact hw) e0_ (Or.inr (Or.inr rfl)) dX7_takesX_66
  rw [hH, hlc] at goal
  exact goal
abbrev rmX7_takesY : Room := { frames := 2, cells := 0, slots := 0, locals := 42 }
theorem hd_X7_takesY : yX7_takesY.cls = RX7 ∧ yX7_takesY.cls ≠ "java/lang/invoke/MethodHandle" ∧ yX7_takesY.cls ≠ "java/lang/invoke/VarHandle" ∧ (parseMethodDescriptor yX7_takesY.desc).map (fun d => d.parameters.length) = some 1 := by decide +kernel
set_option maxHeartbeats 4000000 in
set_option maxRecDepth 100000 in
theorem k_X7_takesY (l : Launch) (D : va_G) (cA : ClassId) (o : Nat → Nat) (oM : St) (a1 : Int32) (r : Int32) (oM' : St) (hf : f_X7_takesY oM a1 = some (r, oM')) : Mi l yX7_takesY wsX7_takesY rmX7_takesY D cA z_0 [.ref (o 0), .int a1] (wX7 o cA oM) r (wX7 o cA oM') := by
  refine Mi.of (cc := cX7_takesY) (maxL := 4) (ret := (some .boolean)) (plainFor_of_name (by decide)) rfl (Nat.le_of_ble_eq_true rfl) (Or.inr rfl) ?_
  intro p e s m below meth c A Q hx hb hml hown hts hK hA hZ hret ls hl hw
  replace hown : s.vm.findClass RX7 = some m.cls := hown
  have hl : lv_has ls 4 [(0, .ref (o 0)), (1, .int a1)] := hl
  have hZo := z_0_ok
  have hi7 : ∀ w ∈ wsX70, w ∈ wsX7_takesY := fun w h => List.mem_cons_of_mem _ (List.mem_append_right _ h)
  have q0 := hts (.fieldLink RX7 85 "ArcRingsModel" "newHigh" "I") (by decide +kernel)
  have q1 := hts (.fieldLink RX7 37 "ArcRingsModel" "newX" "[I") (by decide +kernel)
  have q2 := hts (.fieldLink RX7 72 "ArcRingsModel" "newDots" "I") (by decide +kernel)
  have q3 := hts (.fieldLink RX7 40 "ArcRingsModel" "newY" "[I") (by decide +kernel)
  have q4 := hts (.fieldLink RX7 69 "ArcRingsModel" "stage" "I") (by decide +kernel)
  unfold f_X7_takesY at hf
  obtain ⟨H, hH⟩ : ∃ H, H = s.heap := ⟨_, rfl⟩
  obtain ⟨locs, hlc⟩ : ∃ locs : List Loc, locs = [] := ⟨_, rfl⟩
  have hw : Wd D A s.heap H locs (wX7 o cA oM) := by rw [hH, hlc]; exact hw
  have goal : W p l e rmX7_takesY s m ([.ref (o 0), .int a1] : List Value).toArray below meth c H locs 0 0 Q (F0 m 0 ls []) := by
    clear hH hlc
    refine lv_iload_n hx hb dX7_takesY_0 rfl (lv_at hl 1 rfl) ?_
    obtain ⟨x1, g2, hf⟩ := bn1_e hf
    have fr := fr_X7_S o cA oM
    refine go_i (run_s (As := [.int a1]) (rest := []) ⟨hx, hb, hml, hown, hts⟩ (k_X7_numberBy l D cA a1 x1 g2 H.size) (va_cwS 1 hts gX7_takesY_X7_numberBy rfl rfl rfl hd_X7_numberBy ⟨Nat.le_of_ble_eq_true rfl, Nat.le_of_ble_eq_true rfl⟩) fr hw hK hA rfl hl.1 rfl (Nat.le_of_ble_eq_true rfl) dX7_takesY_1 ⟨Nat.zero_le _, Nat.zero_le _⟩) fr hw hA (fun H locs hw => ?_)
    refine lv_istore_n (lv' := [(2, .int x1), (0, .ref (o 0)), (1, .int a1)]) hx hb dX7_takesY_4 rfl hl (by decide) rfl (fun ls hl => ?_)
    refine lv_iload_n hx hb dX7_takesY_5 rfl (lv_at hl 0 rfl) ?_
    refine lv_iconst (v := 0) hx hb dX7_takesY_6 (by decide) ?_
    refine lv_aload_n hx hb dX7_takesY_7 rfl (lv_at hl 1 rfl) ?_
    refine w_get hx hb hts hi7 hown hK hw 0 rfl rfl 21 (by decide) q0 rfl (v := .int (oM.1 21)) rfl dX7_takesY_8 ?_
    refine lv_iconst (v := 1) hx hb dX7_takesY_11 (by decide) ?_
    refine lv_isub hx hb dX7_takesY_12 ?_
    obtain ⟨x3, g4, hf⟩ := bn1_e hf
    have fr := fr_X7_S o cA oM
    refine go_i (run_s (As := [.int x1, .int 0, .int ((oM.1 21) - 1)]) (rest := []) ⟨hx, hb, hml, hown, hts⟩ (k_X7_within l D cA x1 0 ((oM.1 21) - 1) x3 g4 H.size) (va_cwS 3 hts gX7_takesY_X7_within rfl rfl rfl hd_X7_within ⟨Nat.le_of_ble_eq_true rfl, Nat.le_of_ble_eq_true rfl⟩) fr hw hK hA rfl hl.1 rfl (Nat.le_of_ble_eq_true rfl) dX7_takesY_13 ⟨Nat.zero_le _, Nat.zero_le _⟩) fr hw hA (fun H locs hw => ?_)
    refine lv_if_eq (tgt := 40) hx hb dX7_takesY_16 (by decide) (fun c5 => ?_) (fun c5 => ?_)
    · have hf := if_t c5 hf
      refine lv_iconst (v := 0) hx hb dX7_takesY_40 (by decide) ?_
      refine lv_istore_n (lv' := [(3, .int 0), (2, .int x1), (0, .ref (o 0)), (1, .int a1)]) hx hb dX7_takesY_41 rfl hl (by decide) rfl (fun ls hl => ?_)
      refine lv_iload_n hx hb dX7_takesY_42 rfl (lv_at hl 0 rfl) ?_
      refine lv_if_eq (tgt := 62) hx hb dX7_takesY_43 (by decide) (fun c6 => ?_) (fun c6 => ?_)
      rotate_left
      · exact absurd c6 (by decide)
      refine lv_iload_n hx hb dX7_takesY_62 rfl (lv_at hl 0 rfl) ?_
      obtain ⟨e0_, e1_⟩ := sm2 hf
      exact hret _ _ _ _ _ (by rw [← e1_]; exact hw) e0_ (Or.inr (Or.inl rfl)) dX7_takesY_63
    · have hf := if_f c5 hf
      refine lv_aload_n hx hb dX7_takesY_19 rfl (lv_at hl 1 rfl) ?_
      refine lv_aload_n hx hb dX7_takesY_20 rfl (lv_at hl 1 rfl) ?_
      refine w_get hx hb hts hi7 hown hK hw 0 rfl rfl 23 (by decide) q1 rfl (v := .ref (o 10)) rfl dX7_takesY_21 ?_
      refine lv_aload_n hx hb dX7_takesY_24 rfl (lv_at hl 1 rfl) ?_
      refine w_get hx hb hts hi7 hown hK hw 0 rfl rfl 22 (by decide) q2 rfl (v := .int (oM.1 22)) rfl dX7_takesY_25 ?_
      obtain ⟨x7, g8, hf⟩ := bn1_e hf
      refine w_ald hx hb hK hw 10 rfl g8 dX7_takesY_28 ?_
      refine lv_iload_n hx hb dX7_takesY_29 rfl (lv_at hl 0 rfl) ?_
      obtain ⟨x9, g10, hf⟩ := bn1_e hf
      have fr := fr_X7_X7_oM o cA oM oM
      refine go_i (run_v (As := [.int x7, .int x1]) (rest := []) ⟨hx, hb, hml, hown, hts⟩ (k_X7_isNewAt l D cA o oM x7 x1 x9 g10 H.size) (cwV 2 hts gX7_takesY_X7_isNewAt rfl rfl rfl hd_X7_isNewAt ⟨Nat.le_of_ble_eq_true rfl, Nat.le_of_ble_eq_true rfl⟩) fr hw hK hA hZo hZ (ci := 7) rfl rfl rfl rfl hl.1 rfl (Nat.le_of_ble_eq_true rfl) dX7_takesY_30 ⟨Nat.zero_le _, Nat.zero_le _⟩) fr hw hA (fun H locs hw => ?_)
      refine lv_if_ne (tgt := 40) hx hb dX7_takesY_33 (by decide) (fun c11 => ?_) (fun c11 => ?_)
      · have hf := if_f c11 hf
        refine lv_iconst (v := 0) hx hb dX7_takesY_40 (by decide) ?_
        refine lv_istore_n (lv' := [(3, .int 0), (2, .int x1), (0, .ref (o 0)), (1, .int a1)]) hx hb dX7_takesY_41 rfl hl (by decide) rfl (fun ls hl => ?_)
        refine lv_iload_n hx hb dX7_takesY_42 rfl (lv_at hl 0 rfl) ?_
        refine lv_if_eq (tgt := 62) hx hb dX7_takesY_43 (by decide) (fun c12 => ?_) (fun c12 => ?_)
        rotate_left
        · exact absurd c12 (by decide)
        refine lv_iload_n hx hb dX7_takesY_62 rfl (lv_at hl 0 rfl) ?_
        obtain ⟨e0_, e1_⟩ := sm2 hf
        exact hret _ _ _ _ _ (by rw [← e1_]; exact hw) e0_ (Or.inr (Or.inl rfl)) dX7_takesY_63
      · have hf := if_t c11 hf
        refine lv_iconst (v := 1) hx hb dX7_takesY_36 (by decide) ?_
        refine lv_goto (tgt := 41) hx hb dX7_takesY_37 (by decide) ?_
        refine lv_istore_n (lv' := [(3, .int 1), (2, .int x1), (0, .ref (o 0)), (1, .int a1)]) hx hb dX7_takesY_41 rfl hl (by decide) rfl (fun ls hl => ?_)
        refine lv_iload_n hx hb dX7_takesY_42 rfl (lv_at hl 0 rfl) ?_
        refine lv_if_eq (tgt := 62) hx hb dX7_takesY_43 (by decide) (fun c13 => ?_) (fun c13 => ?_)
        · exact absurd c13 (by decide)
        refine lv_aload_n hx hb dX7_takesY_46 rfl (lv_at hl 2 rfl) ?_
        refine w_get hx hb hts hi7 hown hK hw 0 rfl rfl 24 (by decide) q3 rfl (v := .ref (o 11)) rfl dX7_takesY_47 ?_
        refine lv_aload_n hx hb dX7_takesY_50 rfl (lv_at hl 2 rfl) ?_
        refine w_get hx hb hts hi7 hown hK hw 0 rfl rfl 22 (by decide) q2 rfl (v := .int (oM.1 22)) rfl dX7_takesY_51 ?_
        refine lv_iload_n hx hb dX7_takesY_54 rfl (lv_at hl 1 rfl) ?_
        obtain ⟨oM15, g14, hf⟩ := bn1_e hf
        refine w_aws hx hb hK hw 11 rfl g14 (fun z => (wX7 o cA z)) (fun _ => rfl) dX7_takesY_55 (fun H locs hw => ?_)
        refine lv_aload_n hx hb dX7_takesY_56 rfl (lv_at hl 2 rfl) ?_
        refine lv_bipush (v := 6) hx hb dX7_takesY_57 (by decide) ?_
        refine w_put (ws' := (wX7 o cA ((sI oM15 18 6)))) hx hb hts hi7 tyX7 tyX7_ok nmX7 hown hK hw 0 rfl rfl 18 (by decide) q4 rfl rfl rfl rfl (Nat.le_of_ble_eq_true rfl) rfl dX7_takesY_59 (fun H locs hw => ?_)
        refine lv_iload_n hx hb dX7_takesY_62 rfl (lv_at hl 0 rfl) ?_
        obtain ⟨e0_, e1_⟩ := sm2 hf
        exact hret _ _ _ _ _ (by rw [← e1_]; exact hw) e0_ (Or.inr (Or.inr rfl)) dX7_takesY_63
  rw [hH, hlc] at goal
  exact goal
abbrev rmX7_takesTurn : Room := { frames := 1, cells := 0, slots := 0, locals := 22 }
theorem hd_X7_takesTurn : yX7_takesTurn.cls = RX7 ∧ yX7_takesTurn.cls ≠ "java/lang/invoke/MethodHandle" ∧ yX7_takesTurn.cls ≠ "java/lang/invoke/VarHandle" ∧ (parseMethodDescriptor yX7_takesTurn.desc).map (fun d => d.parameters.length) = some 1 := by decide +kernel
set_option maxHeartbeats 4000000 in
set_option maxRecDepth 100000 in
theorem k_X7_takesTurn (l : Launch) (D : va_G) (cA : ClassId) (o : Nat → Nat) (oM : St) (a1 : Int32) (r : Int32) (oM' : St) (hf : f_X7_takesTurn oM a1 = some (r, oM')) : Mi l yX7_takesTurn wsX7_takesTurn rmX7_takesTurn D cA z_0 [.ref (o 0), .int a1] (wX7 o cA oM) r (wX7 o cA oM') := by
  refine Mi.of (cc := cX7_takesTurn) (maxL := 3) (ret := (some .boolean)) (plainFor_of_name (by decide)) rfl (Nat.le_of_ble_eq_true rfl) (Or.inr rfl) ?_
  intro p e s m below meth c A Q hx hb hml hown hts hK hA hZ hret ls hl hw
  replace hown : s.vm.findClass RX7 = some m.cls := hown
  have hl : lv_has ls 3 [(0, .ref (o 0)), (1, .int a1)] := hl
  have hZo := z_0_ok
  have hi7 : ∀ w ∈ wsX70, w ∈ wsX7_takesTurn := fun w h => List.mem_cons_of_mem _ (List.mem_append_right _ h)
  have q0 := hts (.fieldLink RX7 43 "ArcRingsModel" "newTurn" "[I") (by decide +kernel)
  have q1 := hts (.fieldLink RX7 72 "ArcRingsModel" "newDots" "I") (by decide +kernel)
  have q2 := hts (.fieldLink RX7 69 "ArcRingsModel" "stage" "I") (by decide +kernel)
  unfold f_X7_takesTurn at hf
  obtain ⟨H, hH⟩ : ∃ H, H = s.heap := ⟨_, rfl⟩
  obtain ⟨locs, hlc⟩ : ∃ locs : List Loc, locs = [] := ⟨_, rfl⟩
  have hw : Wd D A s.heap H locs (wX7 o cA oM) := by rw [hH, hlc]; exact hw
  have goal : W p l e rmX7_takesTurn s m ([.ref (o 0), .int a1] : List Value).toArray below meth c H locs 0 0 Q (F0 m 0 ls []) := by
    clear hH hlc
    refine lv_iload_n hx hb dX7_takesTurn_0 rfl (lv_at hl 1 rfl) ?_
    refine lv_bipush (v := 45) hx hb dX7_takesTurn_1 (by decide) ?_
    refine lv_icmp_eq (tgt := 17) hx hb dX7_takesTurn_3 (by decide) (fun c1 => ?_) (fun c1 => ?_)
    · have hf := if_t c1 hf
      refine lv_iconst (v := 1) hx hb dX7_takesTurn_17 (by decide) ?_
      refine lv_goto (tgt := 22) hx hb dX7_takesTurn_18 (by decide) ?_
      refine lv_istore_n (lv' := [(2, .int 1), (0, .ref (o 0)), (1, .int a1)]) hx hb dX7_takesTurn_22 rfl hl (by decide) rfl (fun ls hl => ?_)
      refine lv_iload_n hx hb dX7_takesTurn_23 rfl (lv_at hl 0 rfl) ?_
      refine lv_if_eq (tgt := 65) hx hb dX7_takesTurn_24 (by decide) (fun c2 => ?_) (fun c2 => ?_)
      · exact absurd c2 (by decide)
      refine lv_aload_n hx hb dX7_takesTurn_27 rfl (lv_at hl 1 rfl) ?_
      refine w_get hx hb hts hi7 hown hK hw 0 rfl rfl 25 (by decide) q0 rfl (v := .ref (o 12)) rfl dX7_takesTurn_28 ?_
      refine lv_aload_n hx hb dX7_takesTurn_31 rfl (lv_at hl 1 rfl) ?_
      refine w_get hx hb hts hi7 hown hK hw 0 rfl rfl 22 (by decide) q1 rfl (v := .int (oM.1 22)) rfl dX7_takesTurn_32 ?_
      refine lv_iload_n hx hb dX7_takesTurn_35 rfl (lv_at hl 2 rfl) ?_
      refine lv_bipush (v := 45) hx hb dX7_takesTurn_36 (by decide) ?_
      refine lv_icmp_ne (tgt := 45) hx hb dX7_takesTurn_38 (by decide) (fun c3 => ?_) (fun c3 => ?_)
      · have hf := if_f c3 hf
        refine lv_iload_n hx hb dX7_takesTurn_45 rfl (lv_at hl 2 rfl) ?_
        refine lv_bipush (v := 48) hx hb dX7_takesTurn_46 (by decide) ?_
        refine lv_isub hx hb dX7_takesTurn_48 ?_
        obtain ⟨oM5, g4, hf⟩ := bn1_e hf
        refine w_aws hx hb hK hw 12 rfl g4 (fun z => (wX7 o cA z)) (fun _ => rfl) dX7_takesTurn_49 (fun H locs hw => ?_)
        refine lv_aload_n hx hb dX7_takesTurn_50 rfl (lv_at hl 1 rfl) ?_
        refine lv_dup hx hb dX7_takesTurn_51 rfl ?_
        refine w_get hx hb hts hi7 hown hK hw 0 rfl rfl 22 (by decide) q1 rfl (v := .int (oM5.1 22)) rfl dX7_takesTurn_52 ?_
        refine lv_iconst (v := 1) hx hb dX7_takesTurn_55 (by decide) ?_
        refine lv_iadd hx hb dX7_takesTurn_56 ?_
        refine w_put (ws' := (wX7 o cA ((sI oM5 22 ((oM5.1 22) + 1))))) hx hb hts hi7 tyX7 tyX7_ok nmX7 hown hK hw 0 rfl rfl 22 (by decide) q1 rfl rfl rfl rfl (Nat.le_of_ble_eq_true rfl) rfl dX7_takesTurn_57 (fun H locs hw => ?_)
        refine lv_aload_n hx hb dX7_takesTurn_60 rfl (lv_at hl 1 rfl) ?_
        refine lv_iconst (v := 4) hx hb dX7_takesTurn_61 (by decide) ?_
        refine w_put (ws' := (wX7 o cA ((sI (sI oM5 22 ((oM5.1 22) + 1)) 18 4)))) hx hb hts hi7 tyX7 tyX7_ok nmX7 hown hK hw 0 rfl rfl 18 (by decide) q2 rfl rfl rfl rfl (Nat.le_of_ble_eq_true rfl) rfl dX7_takesTurn_62 (fun H locs hw => ?_)
        refine lv_iload_n hx hb dX7_takesTurn_65 rfl (lv_at hl 0 rfl) ?_
        obtain ⟨e0_, e1_⟩ := sm2 hf
        exact hret _ _ _ _ _ (by rw [← e1_]; exact hw) e0_ (Or.inr (Or.inr rfl)) dX7_takesTurn_66
      · have hf := if_t c3 hf
        refine lv_iconst (v := (-1)) hx hb dX7_takesTurn_41 (by decide) ?_
        refine lv_goto (tgt := 49) hx hb dX7_takesTurn_42 (by decide) ?_
        obtain ⟨oM7, g6, hf⟩ := bn1_e hf
        refine w_aws hx hb hK hw 12 rfl g6 (fun z => (wX7 o cA z)) (fun _ => rfl) dX7_takesTurn_49 (fun H locs hw => ?_)
        refine lv_aload_n hx hb dX7_takesTurn_50 rfl (lv_at hl 1 rfl) ?_
        refine lv_dup hx hb dX7_takesTurn_51 rfl ?_
        refine w_get hx hb hts hi7 hown hK hw 0 rfl rfl 22 (by decide) q1 rfl (v := .int (oM7.1 22)) rfl dX7_takesTurn_52 ?_
        refine lv_iconst (v := 1) hx hb dX7_takesTurn_55 (by decide) ?_
        refine lv_iadd hx hb dX7_takesTurn_56 ?_
        refine w_put (ws' := (wX7 o cA ((sI oM7 22 ((oM7.1 22) + 1))))) hx hb hts hi7 tyX7 tyX7_ok nmX7 hown hK hw 0 rfl rfl 22 (by decide) q1 rfl rfl rfl rfl (Nat.le_of_ble_eq_true rfl) rfl dX7_takesTurn_57 (fun H locs hw => ?_)
        refine lv_aload_n hx hb dX7_takesTurn_60 rfl (lv_at hl 1 rfl) ?_
        refine lv_iconst (v := 4) hx hb dX7_takesTurn_61 (by decide) ?_
        refine w_put (ws' := (wX7 o cA ((sI (sI oM7 22 ((oM7.1 22) + 1)) 18 4)))) hx hb hts hi7 tyX7 tyX7_ok nmX7 hown hK hw 0 rfl rfl 18 (by decide) q2 rfl rfl rfl rfl (Nat.le_of_ble_eq_true rfl) rfl dX7_takesTurn_62 (fun H locs hw => ?_)
        refine lv_iload_n hx hb dX7_takesTurn_65 rfl (lv_at hl 0 rfl) ?_
        obtain ⟨e0_, e1_⟩ := sm2 hf
        exact hret _ _ _ _ _ (by rw [← e1_]; exact hw) e0_ (Or.inr (Or.inr rfl)) dX7_takesTurn_66
    · have hf := if_f c1 hf
      refine lv_iload_n hx hb dX7_takesTurn_6 rfl (lv_at hl 1 rfl) ?_
      refine lv_bipush (v := 48) hx hb dX7_takesTurn_7 (by decide) ?_
      refine lv_bipush (v := 55) hx hb dX7_takesTurn_9 (by decide) ?_
      obtain ⟨x8, g9, hf⟩ := bn1_e hf
      have fr := fr_X7_S o cA oM
      refine go_i (run_s (As := [.int a1, .int 48, .int 55]) (rest := []) ⟨hx, hb, hml, hown, hts⟩ (k_X7_within l D cA a1 48 55 x8 g9 H.size) (va_cwS 3 hts gX7_takesTurn_X7_within rfl rfl rfl hd_X7_within ⟨Nat.le_of_ble_eq_true rfl, Nat.le_of_ble_eq_true rfl⟩) fr hw hK hA rfl hl.1 rfl (Nat.le_of_ble_eq_true rfl) dX7_takesTurn_11 ⟨Nat.zero_le _, Nat.zero_le _⟩) fr hw hA (fun H locs hw => ?_)
      refine lv_if_eq (tgt := 21) hx hb dX7_takesTurn_14 (by decide) (fun c10 => ?_) (fun c10 => ?_)
      · have hf := if_t c10 hf
        refine lv_iconst (v := 0) hx hb dX7_takesTurn_21 (by decide) ?_
        refine lv_istore_n (lv' := [(2, .int 0), (0, .ref (o 0)), (1, .int a1)]) hx hb dX7_takesTurn_22 rfl hl (by decide) rfl (fun ls hl => ?_)
        refine lv_iload_n hx hb dX7_takesTurn_23 rfl (lv_at hl 0 rfl) ?_
        refine lv_if_eq (tgt := 65) hx hb dX7_takesTurn_24 (by decide) (fun c11 => ?_) (fun c11 => ?_)
        rotate_left
        · exact absurd c11 (by decide)
        refine lv_iload_n hx hb dX7_takesTurn_65 rfl (lv_at hl 0 rfl) ?_
        obtain ⟨e0_, e1_⟩ := sm2 hf
        exact hret _ _ _ _ _ (by rw [← e1_]; exact hw) e0_ (Or.inr (Or.inl rfl)) dX7_takesTurn_66
      · have hf := if_f c10 hf
        refine lv_iconst (v := 1) hx hb dX7_takesTurn_17 (by decide) ?_
        refine lv_goto (tgt := 22) hx hb dX7_takesTurn_18 (by decide) ?_
        refine lv_istore_n (lv' := [(2, .int 1), (0, .ref (o 0)), (1, .int a1)]) hx hb dX7_takesTurn_22 rfl hl (by decide) rfl (fun ls hl => ?_)
        refine lv_iload_n hx hb dX7_takesTurn_23 rfl (lv_at hl 0 rfl) ?_
        refine lv_if_eq (tgt := 65) hx hb dX7_takesTurn_24 (by decide) (fun c12 => ?_) (fun c12 => ?_)
        · exact absurd c12 (by decide)
        refine lv_aload_n hx hb dX7_takesTurn_27 rfl (lv_at hl 1 rfl) ?_
        refine w_get hx hb hts hi7 hown hK hw 0 rfl rfl 25 (by decide) q0 rfl (v := .ref (o 12)) rfl dX7_takesTurn_28 ?_
        refine lv_aload_n hx hb dX7_takesTurn_31 rfl (lv_at hl 1 rfl) ?_
        refine w_get hx hb hts hi7 hown hK hw 0 rfl rfl 22 (by decide) q1 rfl (v := .int (oM.1 22)) rfl dX7_takesTurn_32 ?_
        refine lv_iload_n hx hb dX7_takesTurn_35 rfl (lv_at hl 2 rfl) ?_
        refine lv_bipush (v := 45) hx hb dX7_takesTurn_36 (by decide) ?_
        refine lv_icmp_ne (tgt := 45) hx hb dX7_takesTurn_38 (by decide) (fun c13 => ?_) (fun c13 => ?_)
        · have hf := if_f c13 hf
          refine lv_iload_n hx hb dX7_takesTurn_45 rfl (lv_at hl 2 rfl) ?_
          refine lv_bipush (v := 48) hx hb dX7_takesTurn_46 (by decide) ?_
          refine lv_isub hx hb dX7_takesTurn_48 ?_
          obtain ⟨oM15, g14, hf⟩ := bn1_e hf
          refine w_aws hx hb hK hw 12 rfl g14 (fun z => (wX7 o cA z)) (fun _ => rfl) dX7_takesTurn_49 (fun H locs hw => ?_)
          refine lv_aload_n hx hb dX7_takesTurn_50 rfl (lv_at hl 1 rfl) ?_
          refine lv_dup hx hb dX7_takesTurn_51 rfl ?_
          refine w_get hx hb hts hi7 hown hK hw 0 rfl rfl 22 (by decide) q1 rfl (v := .int (oM15.1 22)) rfl dX7_takesTurn_52 ?_
          refine lv_iconst (v := 1) hx hb dX7_takesTurn_55 (by decide) ?_
          refine lv_iadd hx hb dX7_takesTurn_56 ?_
          refine w_put (ws' := (wX7 o cA ((sI oM15 22 ((oM15.1 22) + 1))))) hx hb hts hi7 tyX7 tyX7_ok nmX7 hown hK hw 0 rfl rfl 22 (by decide) q1 rfl rfl rfl rfl (Nat.le_of_ble_eq_true rfl) rfl dX7_takesTurn_57 (fun H locs hw => ?_)
          refine lv_aload_n hx hb dX7_takesTurn_60 rfl (lv_at hl 1 rfl) ?_
          refine lv_iconst (v := 4) hx hb dX7_takesTurn_61 (by decide) ?_
          refine w_put (ws' := (wX7 o cA ((sI (sI oM15 22 ((oM15.1 22) + 1)) 18 4)))) hx hb hts hi7 tyX7 tyX7_ok nmX7 hown hK hw 0 rfl rfl 18 (by decide) q2 rfl rfl rfl rfl (Nat.le_of_ble_eq_true rfl) rfl dX7_takesTurn_62 (fun H locs hw => ?_)
          refine lv_iload_n hx hb dX7_takesTurn_65 rfl (lv_at hl 0 rfl) ?_
          obtain ⟨e0_, e1_⟩ := sm2 hf
          exact hret _ _ _ _ _ (by rw [← e1_]; exact hw) e0_ (Or.inr (Or.inr rfl)) dX7_takesTurn_66
        · have hf := if_t c13 hf
          refine lv_iconst (v := (-1)) hx hb dX7_takesTurn_41 (by decide) ?_
          refine lv_goto (tgt := 49) hx hb dX7_takesTurn_42 (by decide) ?_
          obtain ⟨oM17, g16, hf⟩ := bn1_e hf
          refine w_aws hx hb hK hw 12 rfl g16 (fun z => (wX7 o cA z)) (fun _ => rfl) dX7_takesTurn_49 (fun H locs hw => ?_)
          refine lv_aload_n hx hb dX7_takesTurn_50 rfl (lv_at hl 1 rfl) ?_
          refine lv_dup hx hb dX7_takesTurn_51 rfl ?_
          refine w_get hx hb hts hi7 hown hK hw 0 rfl rfl 22 (by decide) q1 rfl (v := .int (oM17.1 22)) rfl dX7_takesTurn_52 ?_
          refine lv_iconst (v := 1) hx hb dX7_takesTurn_55 (by decide) ?_
          refine lv_iadd hx hb dX7_takesTurn_56 ?_
          refine w_put (ws' := (wX7 o cA ((sI oM17 22 ((oM17.1 22) + 1))))) hx hb hts hi7 tyX7 tyX7_ok nmX7 hown hK hw 0 rfl rfl 22 (by decide) q1 rfl rfl rfl rfl (Nat.le_of_ble_eq_true rfl) rfl dX7_takesTurn_57 (fun H locs hw => ?_)
          refine lv_aload_n hx hb dX7_takesTurn_60 rfl (lv_at hl 1 rfl) ?_
          refine lv_iconst (v := 4) hx hb dX7_takesTurn_61 (by decide) ?_
          refine w_put (ws' := (wX7 o cA ((sI (sI oM17 22 ((oM17.1 22) + 1)) 18 4)))) hx hb hts hi7 tyX7 tyX7_ok nmX7 hown hK hw 0 rfl rfl 18 (by decide) q2 rfl rfl rfl rfl (Nat.le_of_ble_eq_true rfl) rfl dX7_takesTurn_62 (fun H locs hw => ?_)
          refine lv_iload_n hx hb dX7_takesTurn_65 rfl (lv_at hl 0 rfl) ?_
          obtain ⟨e0_, e1_⟩ := sm2 hf
          exact hret _ _ _ _ _ (by rw [← e1_]; exact hw) e0_ (Or.inr (Or.inr rfl)) dX7_takesTurn_66
  rw [hH, hlc] at goal
  exact goal
abbrev rmX7_takes : Room := { frames := 3, cells := 0, slots := 0, locals := 65 }
theorem hd_X7_takes : yX7_takes.cls = RX7 ∧ yX7_takes.cls ≠ "java/lang/invoke/MethodHandle" ∧ yX7_takes.cls ≠ "java/lang/invoke/VarHandle" ∧ (parseMethodDescriptor yX7_takes.desc).map (fun d => d.parameters.length) = some 1 := by decide +kernel
set_option maxHeartbeats 4000000 in
set_option maxRecDepth 100000 in
theorem k_X7_takes (l : Launch) (D : va_G) (cA : ClassId) (o : Nat → Nat) (oM : St) (a1 : Int32) (r : Int32) (oM' : St) (hf : f_X7_takes oM a1 = some (r, oM')) : Mi l yX7_takes wsX7_takes rmX7_takes D cA z_0 [.ref (o 0), .int a1] (wX7 o cA oM) r (wX7 o cA oM') := by
  refine Mi.of (cc := cX7_takes) (maxL := 2) (ret := (some .boolean)) (plainFor_of_name (by decide)) rfl (Nat.le_of_ble_eq_true rfl) (Or.inr rfl) ?_
  intro p e s m below meth c A Q hx hb hml hown hts hK hA hZ hret ls hl hw
  replace hown : s.vm.findClass RX7 = some m.cls := hown
  have hl : lv_has ls 2 [(0, .ref (o 0)), (1, .int a1)] := hl
  have hZo := z_0_ok
  have hi7 : ∀ w ∈ wsX70, w ∈ wsX7_takes := fun w h => List.mem_cons_of_mem _ (List.mem_append_right _ h)
  have q0 := hts (.fieldLink RX7 69 "ArcRingsModel" "stage" "I") (by decide +kernel)
  have q1 := hts (.fieldLink RX7 66 "ArcRingsModel" "newSide" "I") (by decide +kernel)
  have q2 := hts (.fieldLink RX7 79 "ArcRingsModel" "newWide" "I") (by decide +kernel)
  have q3 := hts (.fieldLink RX7 72 "ArcRingsModel" "newDots" "I") (by decide +kernel)
  have q4 := hts (.fieldLink RX7 85 "ArcRingsModel" "newHigh" "I") (by decide +kernel)
  unfold f_X7_takes at hf
  obtain ⟨H, hH⟩ : ∃ H, H = s.heap := ⟨_, rfl⟩
  obtain ⟨locs, hlc⟩ : ∃ locs : List Loc, locs = [] := ⟨_, rfl⟩
  have hw : Wd D A s.heap H locs (wX7 o cA oM) := by rw [hH, hlc]; exact hw
  have goal : W p l e rmX7_takes s m ([.ref (o 0), .int a1] : List Value).toArray below meth c H locs 0 0 Q (F0 m 0 ls []) := by
    clear hH hlc
    refine lv_aload_n hx hb dX7_takes_0 rfl (lv_at hl 0 rfl) ?_
    refine w_get hx hb hts hi7 hown hK hw 0 rfl rfl 18 (by decide) q0 rfl (v := .int (oM.1 18)) rfl dX7_takes_1 ?_
    by_cases c1 : (oM.1 18) = 0
    · have hf := if_t c1 hf
      refine lv_tableIn (tgt := 44) hx hb dX7_takes_4 (by rw [c1]; decide) (by rw [c1]; decide) (by rw [c1]; rfl) (by decide) ?_
      refine lv_aload_n hx hb dX7_takes_44 rfl (lv_at hl 0 rfl) ?_
      refine lv_iload_n hx hb dX7_takes_45 rfl (lv_at hl 1 rfl) ?_
      refine lv_iconst (v := 1) hx hb dX7_takes_46 (by decide) ?_
      obtain ⟨x2, oM3, g4, hf⟩ := bn2_e hf
      have fr := fr_X7_X7_oM o cA oM oM3
      refine go_i (run_v (As := [.int a1, .int 1]) (rest := []) ⟨hx, hb, hml, hown, hts⟩ (k_X7_beginsSide l D cA o oM a1 1 x2 oM3 g4 H.size) (cwV 2 hts gX7_takes_X7_beginsSide rfl rfl rfl hd_X7_beginsSide ⟨Nat.le_of_ble_eq_true rfl, Nat.le_of_ble_eq_true rfl⟩) fr hw hK hA hZo hZ (ci := 7) rfl rfl rfl rfl hl.1 rfl (Nat.le_of_ble_eq_true rfl) dX7_takes_47 ⟨Nat.zero_le _, Nat.zero_le _⟩) fr hw hA (fun H locs hw => ?_)
      obtain ⟨bz, hf⟩ := if_n hf
      obtain ⟨e0_, e1_⟩ := sm2 hf
      exact hret _ _ _ _ _ (by rw [← e1_]; exact hw) e0_ (Or.inr bz) dX7_takes_50
    have hf := if_f c1 hf
    by_cases c5 : (oM.1 18) = 1
    · have hf := if_t c5 hf
      refine lv_tableIn (tgt := 51) hx hb dX7_takes_4 (by rw [c5]; decide) (by rw [c5]; decide) (by rw [c5]; rfl) (by decide) ?_
      refine lv_aload_n hx hb dX7_takes_51 rfl (lv_at hl 0 rfl) ?_
      refine lv_iload_n hx hb dX7_takes_52 rfl (lv_at hl 1 rfl) ?_
      refine lv_bipush (v := 120) hx hb dX7_takes_53 (by decide) ?_
      obtain ⟨x6, oM7, g8, hf⟩ := bn2_e hf
      have fr := fr_X7_X7_oM o cA oM oM7
      refine go_i (run_v (As := [.int a1, .int 120]) (rest := []) ⟨hx, hb, hml, hown, hts⟩ (k_X7_goesOnSide l D cA o oM a1 120 x6 oM7 g8 H.size) (cwV 2 hts gX7_takes_X7_goesOnSide rfl rfl rfl hd_X7_goesOnSide ⟨Nat.le_of_ble_eq_true rfl, Nat.le_of_ble_eq_true rfl⟩) fr hw hK hA hZo hZ (ci := 7) rfl rfl rfl rfl hl.1 rfl (Nat.le_of_ble_eq_true rfl) dX7_takes_55 ⟨Nat.zero_le _, Nat.zero_le _⟩) fr hw hA (fun H locs hw => ?_)
      obtain ⟨bz, hf⟩ := if_n hf
      obtain ⟨e0_, e1_⟩ := sm2 hf
      exact hret _ _ _ _ _ (by rw [← e1_]; exact hw) e0_ (Or.inr bz) dX7_takes_58
    have hf := if_f c5 hf
    by_cases c9 : (oM.1 18) = 2
    · have hf := if_t c9 hf
      refine lv_tableIn (tgt := 59) hx hb dX7_takes_4 (by rw [c9]; decide) (by rw [c9]; decide) (by rw [c9]; rfl) (by decide) ?_
      refine lv_aload_n hx hb dX7_takes_59 rfl (lv_at hl 0 rfl) ?_
      refine lv_aload_n hx hb dX7_takes_60 rfl (lv_at hl 0 rfl) ?_
      refine w_get hx hb hts hi7 hown hK hw 0 rfl rfl 19 (by decide) q1 rfl (v := .int (oM.1 19)) rfl dX7_takes_61 ?_
      refine w_put (ws' := (wX7 o cA ((sI oM 20 (oM.1 19))))) hx hb hts hi7 tyX7 tyX7_ok nmX7 hown hK hw 0 rfl rfl 20 (by decide) q2 rfl rfl rfl rfl (Nat.le_of_ble_eq_true rfl) rfl dX7_takes_64 (fun H locs hw => ?_)
      refine lv_aload_n hx hb dX7_takes_67 rfl (lv_at hl 0 rfl) ?_
      refine lv_iload_n hx hb dX7_takes_68 rfl (lv_at hl 1 rfl) ?_
      refine lv_iconst (v := 3) hx hb dX7_takes_69 (by decide) ?_
      obtain ⟨x10, oM11, g12, hf⟩ := bn2_e hf
      have fr := fr_X7_X7_oM o cA ((sI oM 20 (oM.1 19))) oM11
      refine go_i (run_v (As := [.int a1, .int 3]) (rest := []) ⟨hx, hb, hml, hown, hts⟩ (k_X7_beginsSide l D cA o ((sI oM 20 (oM.1 19))) a1 3 x10 oM11 g12 H.size) (cwV 2 hts gX7_takes_X7_beginsSide rfl rfl rfl hd_X7_beginsSide ⟨Nat.le_of_ble_eq_true rfl, Nat.le_of_ble_eq_true rfl⟩) fr hw hK hA hZo hZ (ci := 7) rfl rfl rfl rfl hl.1 rfl (Nat.le_of_ble_eq_true rfl) dX7_takes_70 ⟨Nat.zero_le _, Nat.zero_le _⟩) fr hw hA (fun H locs hw => ?_)
      obtain ⟨bz, hf⟩ := if_n hf
      obtain ⟨e0_, e1_⟩ := sm2 hf
      exact hret _ _ _ _ _ (by rw [← e1_]; exact hw) e0_ (Or.inr bz) dX7_takes_73
    have hf := if_f c9 hf
    by_cases c13 : (oM.1 18) = 3
    · have hf := if_t c13 hf
      refine lv_tableIn (tgt := 74) hx hb dX7_takes_4 (by rw [c13]; decide) (by rw [c13]; decide) (by rw [c13]; rfl) (by decide) ?_
      refine lv_aload_n hx hb dX7_takes_74 rfl (lv_at hl 0 rfl) ?_
      refine lv_iload_n hx hb dX7_takes_75 rfl (lv_at hl 1 rfl) ?_
      refine lv_bipush (v := 58) hx hb dX7_takes_76 (by decide) ?_
      obtain ⟨x14, oM15, g16, hf⟩ := bn2_e hf
      have fr := fr_X7_X7_oM o cA oM oM15
      refine go_i (run_v (As := [.int a1, .int 58]) (rest := []) ⟨hx, hb, hml, hown, hts⟩ (k_X7_goesOnSide l D cA o oM a1 58 x14 oM15 g16 H.size) (cwV 2 hts gX7_takes_X7_goesOnSide rfl rfl rfl hd_X7_goesOnSide ⟨Nat.le_of_ble_eq_true rfl, Nat.le_of_ble_eq_true rfl⟩) fr hw hK hA hZo hZ (ci := 7) rfl rfl rfl rfl hl.1 rfl (Nat.le_of_ble_eq_true rfl) dX7_takes_78 ⟨Nat.zero_le _, Nat.zero_le _⟩) fr hw hA (fun H locs hw => ?_)
      obtain ⟨bz, hf⟩ := if_n hf
      obtain ⟨e0_, e1_⟩ := sm2 hf
      exact hret _ _ _ _ _ (by rw [← e1_]; exact hw) e0_ (Or.inr bz) dX7_takes_81
    have hf := if_f c13 hf
    by_cases c17 : (oM.1 18) = 4
    · have hf := if_t c17 hf
      refine lv_tableIn (tgt := 82) hx hb dX7_takes_4 (by rw [c17]; decide) (by rw [c17]; decide) (by rw [c17]; rfl) (by decide) ?_
      refine lv_aload_n hx hb dX7_takes_82 rfl (lv_at hl 0 rfl) ?_
      refine lv_aload_n hx hb dX7_takes_83 rfl (lv_at hl 0 rfl) ?_
      refine w_get hx hb hts hi7 hown hK hw 0 rfl rfl 22 (by decide) q3 rfl (v := .int (oM.1 22)) rfl dX7_takes_84 ?_
      refine lv_if_ne (tgt := 97) hx hb dX7_takes_87 (by decide) (fun c18 => ?_) (fun c18 => ?_)
      · have hf := if_f c18 hf
        refine lv_aload_n hx hb dX7_takes_97 rfl (lv_at hl 0 rfl) ?_
        refine w_get hx hb hts hi7 hown hK hw 0 rfl rfl 21 (by decide) q4 rfl (v := .int (oM.1 21)) rfl dX7_takes_98 ?_
        refine w_put (ws' := (wX7 o cA ((sI oM 21 (oM.1 21))))) hx hb hts hi7 tyX7 tyX7_ok nmX7 hown hK hw 0 rfl rfl 21 (by decide) q4 rfl rfl rfl rfl (Nat.le_of_ble_eq_true rfl) rfl dX7_takes_101 (fun H locs hw => ?_)
        refine lv_aload_n hx hb dX7_takes_104 rfl (lv_at hl 0 rfl) ?_
        refine lv_iload_n hx hb dX7_takes_105 rfl (lv_at hl 1 rfl) ?_
        obtain ⟨x19, oM20, g21, hf⟩ := bn2_e hf
        have fr := fr_X7_X7_oM o cA ((sI oM 21 (oM.1 21))) oM20
        refine go_i (run_v (As := [.int a1]) (rest := []) ⟨hx, hb, hml, hown, hts⟩ (k_X7_takesX l D cA o ((sI oM 21 (oM.1 21))) a1 x19 oM20 g21 H.size) (cwV 1 hts gX7_takes_X7_takesX rfl rfl rfl hd_X7_takesX ⟨Nat.le_of_ble_eq_true rfl, Nat.le_of_ble_eq_true rfl⟩) fr hw hK hA hZo hZ (ci := 7) rfl rfl rfl rfl hl.1 rfl (Nat.le_of_ble_eq_true rfl) dX7_takes_106 ⟨Nat.zero_le _, Nat.zero_le _⟩) fr hw hA (fun H locs hw => ?_)
        obtain ⟨bz, hf⟩ := if_n hf
        obtain ⟨e0_, e1_⟩ := sm2 hf
        exact hret _ _ _ _ _ (by rw [← e1_]; exact hw) e0_ (Or.inr bz) dX7_takes_109
      · have hf := if_t c18 hf
        refine lv_aload_n hx hb dX7_takes_90 rfl (lv_at hl 0 rfl) ?_
        refine w_get hx hb hts hi7 hown hK hw 0 rfl rfl 19 (by decide) q1 rfl (v := .int (oM.1 19)) rfl dX7_takes_91 ?_
        refine lv_goto (tgt := 101) hx hb dX7_takes_94 (by decide) ?_
        refine w_put (ws' := (wX7 o cA ((sI oM 21 (oM.1 19))))) hx hb hts hi7 tyX7 tyX7_ok nmX7 hown hK hw 0 rfl rfl 21 (by decide) q4 rfl rfl rfl rfl (Nat.le_of_ble_eq_true rfl) rfl dX7_takes_101 (fun H locs hw => ?_)
        refine lv_aload_n hx hb dX7_takes_104 rfl (lv_at hl 0 rfl) ?_
        refine lv_iload_n hx hb dX7_takes_105 rfl (lv_at hl 1 rfl) ?_
        obtain ⟨x22, oM23, g24, hf⟩ := bn2_e hf
        have fr := fr_X7_X7_oM o cA ((sI oM 21 (oM.1 19))) oM23
        refine go_i (run_v (As := [.int a1]) (rest := []) ⟨hx, hb, hml, hown, hts⟩ (k_X7_takesX l D cA o ((sI oM 21 (oM.1 19))) a1 x22 oM23 g24 H.size) (cwV 1 hts gX7_takes_X7_takesX rfl rfl rfl hd_X7_takesX ⟨Nat.le_of_ble_eq_true rfl, Nat.le_of_ble_eq_true rfl⟩) fr hw hK hA hZo hZ (ci := 7) rfl rfl rfl rfl hl.1 rfl (Nat.le_of_ble_eq_true rfl) dX7_takes_106 ⟨Nat.zero_le _, Nat.zero_le _⟩) fr hw hA (fun H locs hw => ?_)
        obtain ⟨bz, hf⟩ := if_n hf
        obtain ⟨e0_, e1_⟩ := sm2 hf
        exact hret _ _ _ _ _ (by rw [← e1_]; exact hw) e0_ (Or.inr bz) dX7_takes_109
    have hf := if_f c17 hf
    by_cases c25 : (oM.1 18) = 5
    · have hf := if_t c25 hf
      refine lv_tableIn (tgt := 110) hx hb dX7_takes_4 (by rw [c25]; decide) (by rw [c25]; decide) (by rw [c25]; rfl) (by decide) ?_
      refine lv_aload_n hx hb dX7_takes_110 rfl (lv_at hl 0 rfl) ?_
      refine lv_iload_n hx hb dX7_takes_111 rfl (lv_at hl 1 rfl) ?_
      obtain ⟨x26, oM27, g28, hf⟩ := bn2_e hf
      have fr := fr_X7_X7_oM o cA oM oM27
      refine go_i (run_v (As := [.int a1]) (rest := []) ⟨hx, hb, hml, hown, hts⟩ (k_X7_takesY l D cA o oM a1 x26 oM27 g28 H.size) (cwV 1 hts gX7_takes_X7_takesY rfl rfl rfl hd_X7_takesY ⟨Nat.le_of_ble_eq_true rfl, Nat.le_of_ble_eq_true rfl⟩) fr hw hK hA hZo hZ (ci := 7) rfl rfl rfl rfl hl.1 rfl (Nat.le_of_ble_eq_true rfl) dX7_takes_112 ⟨Nat.zero_le _, Nat.zero_le _⟩) fr hw hA (fun H locs hw => ?_)
      obtain ⟨bz, hf⟩ := if_n hf
      obtain ⟨e0_, e1_⟩ := sm2 hf
      exact hret _ _ _ _ _ (by rw [← e1_]; exact hw) e0_ (Or.inr bz) dX7_takes_115
    have hf := if_f c25 hf
    refine lv_tableOut (tgt := 116) hx hb dX7_takes_4 (w_out (n := 6) (by decide) (fun k hk => ?_)) (by decide) ?_
    · match k, hk with
      | 0, _ => exact c1
      | 1, _ => exact c5
      | 2, _ => exact c9
      | 3, _ => exact c13
      | 4, _ => exact c17
      | 5, _ => exact c25
      | k + 6, hk => omega
    refine lv_aload_n hx hb dX7_takes_116 rfl (lv_at hl 0 rfl) ?_
    refine lv_iload_n hx hb dX7_takes_117 rfl (lv_at hl 1 rfl) ?_
    obtain ⟨x29, oM30, g31, hf⟩ := bn2_e hf
    have fr := fr_X7_X7_oM o cA oM oM30
    refine go_i (run_v (As := [.int a1]) (rest := []) ⟨hx, hb, hml, hown, hts⟩ (k_X7_takesTurn l D cA o oM a1 x29 oM30 g31 H.size) (cwV 1 hts gX7_takes_X7_takesTurn rfl rfl rfl hd_X7_takesTurn ⟨Nat.le_of_ble_eq_true rfl, Nat.le_of_ble_eq_true rfl⟩) fr hw hK hA hZo hZ (ci := 7) rfl rfl rfl rfl hl.1 rfl (Nat.le_of_ble_eq_true rfl) dX7_takes_118 ⟨Nat.zero_le _, Nat.zero_le _⟩) fr hw hA (fun H locs hw => ?_)
    obtain ⟨bz, hf⟩ := if_n hf
    obtain ⟨e0_, e1_⟩ := sm2 hf
    exact hret _ _ _ _ _ (by rw [← e1_]; exact hw) e0_ (Or.inr bz) dX7_takes_121
  rw [hH, hlc] at goal
  exact goal
abbrev rmX7_read : Room := { frames := 4, cells := 0, slots := 0, locals := 86 }
theorem hd_X7_read : yX7_read.cls = RX7 ∧ yX7_read.cls ≠ "java/lang/invoke/MethodHandle" ∧ yX7_read.cls ≠ "java/lang/invoke/VarHandle" ∧ (parseMethodDescriptor yX7_read.desc).map (fun d => d.parameters.length) = some 0 := by decide +kernel
set_option maxHeartbeats 4000000 in
set_option maxRecDepth 100000 in
theorem k_X7_read (l : Launch) (D : va_G) (cA : ClassId) (o : Nat → Nat) (oM : St) (r : Int32) (oM' : St) (hf : f_X7_read oM = some (r, oM')) : Mi l yX7_read wsX7_read rmX7_read D cA z_0 [.ref (o 0)] (wX7 o cA oM) r (wX7 o cA oM') := by
  refine Mi.of (cc := cX7_read) (maxL := 2) (ret := (some .int)) (plainFor_of_name (by decide)) rfl (Nat.le_of_ble_eq_true rfl) (Or.inl rfl) ?_
  intro p e s m below meth c A Q hx hb hml hown hts hK hA hZ hret ls hl hw
  replace hown : s.vm.findClass RX7 = some m.cls := hown
  have hl : lv_has ls 2 [(0, .ref (o 0))] := hl
  have hZo := z_0_ok
  have hi7 : ∀ w ∈ wsX70, w ∈ wsX7_read := fun w h => List.mem_cons_of_mem _ (List.mem_append_right _ h)
  have q0 := hts (.fieldLink RX7 69 "ArcRingsModel" "stage" "I") (by decide +kernel)
  have q1 := hts (.fieldLink RX7 72 "ArcRingsModel" "newDots" "I") (by decide +kernel)
  have q2 := hts (.fieldLink RX7 62 "ArcRingsModel" "pageLength" "I") (by decide +kernel)
  have q3 := hts (.fieldLink RX7 7 "ArcRingsModel" "page" "[I") (by decide +kernel)
  have h_L12 : ∀ (n : Nat) (v1 : Int32) (oM : St), f_X7_read_L12  n v1 oM = some (r, oM') → ∀ (H : Heap) (locs : List Loc) (ls : Array Slot), Wd D A s.heap H locs (wX7 o cA oM) → lv_has ls 2 [(0, .ref (o 0)), (1, .int v1)] → W p l e rmX7_read s m ([.ref (o 0)] : List Value).toArray below meth c H locs 0 0 Q (F0 m 12 ls []) := by
    intro n
    induction n with
    | zero =>
      intro v1 oM hf
      have hf : none = some (r, oM') := hf
      cases hf
    | succ n ih =>
      intro v1 oM hf H locs ls hw hl
      have hf := (f_X7_read_L12_s  n v1 oM).symm.trans hf
      refine lv_iload_n hx hb dX7_read_12 rfl (lv_at hl 1 rfl) ?_
      refine lv_aload_n hx hb dX7_read_13 rfl (lv_at hl 0 rfl) ?_
      refine w_get hx hb hts hi7 hown hK hw 0 rfl rfl 0 (by decide) q2 rfl (v := .int (oM.1 0)) rfl dX7_read_14 ?_
      refine lv_icmp_ge (tgt := 39) hx hb dX7_read_17 (by decide) (fun c1 => ?_) (fun c1 => ?_)
      · have hf := if_t c1 hf
        refine lv_iload_n hx hb dX7_read_39 rfl (lv_at hl 1 rfl) ?_
        obtain ⟨e0_, e1_⟩ := sm2 hf
        exact hret _ _ _ _ _ (by rw [← e1_]; exact hw) e0_ (Or.inl rfl) dX7_read_40
      · have hf := if_f c1 hf
        refine lv_aload_n hx hb dX7_read_20 rfl (lv_at hl 0 rfl) ?_
        refine lv_aload_n hx hb dX7_read_21 rfl (lv_at hl 0 rfl) ?_
        refine w_get hx hb hts hi7 hown hK hw 0 rfl rfl 1 (by decide) q3 rfl (v := .ref (o 1)) rfl dX7_read_22 ?_
        refine lv_iload_n hx hb dX7_read_25 rfl (lv_at hl 1 rfl) ?_
        obtain ⟨x2, g3, hf⟩ := bn1_e hf
        refine w_ald hx hb hK hw 1 rfl g3 dX7_read_26 ?_
        obtain ⟨x4, oM5, g6, hf⟩ := bn2_e hf
        have fr := fr_X7_X7_oM o cA oM oM5
        refine go_i (run_v (As := [.int x2]) (rest := []) ⟨hx, hb, hml, hown, hts⟩ (k_X7_takes l D cA o oM x2 x4 oM5 g6 H.size) (cwV 1 hts gX7_read_X7_takes rfl rfl rfl hd_X7_takes ⟨Nat.le_of_ble_eq_true rfl, Nat.le_of_ble_eq_true rfl⟩) fr hw hK hA hZo hZ (ci := 7) rfl rfl rfl rfl hl.1 rfl (Nat.le_of_ble_eq_true rfl) dX7_read_27 ⟨Nat.zero_le _, Nat.zero_le _⟩) fr hw hA (fun H locs hw => ?_)
        refine lv_if_eq (tgt := 39) hx hb dX7_read_30 (by decide) (fun c7 => ?_) (fun c7 => ?_)
        · have hf := if_t c7 hf
          refine lv_iload_n hx hb dX7_read_39 rfl (lv_at hl 1 rfl) ?_
          obtain ⟨e0_, e1_⟩ := sm2 hf
          exact hret _ _ _ _ _ (by rw [← e1_]; exact hw) e0_ (Or.inl rfl) dX7_read_40
        · have hf := if_f c7 hf
          refine lv_iinc (v := v1 + 1) (lv' := [(1, .int (v1 + 1)), (0, .ref (o 0))]) hx hb dX7_read_33 hl (k := 1) rfl (by rfl) (by decide) rfl (fun ls hl => ?_)
          refine lv_goto (tgt := 12) hx hb dX7_read_36 (by decide) ?_
          exact ih (v1 + 1) oM5 hf H locs ls hw (lv_sub hl [1, 0] rfl)
  unfold f_X7_read at hf
  obtain ⟨H, hH⟩ : ∃ H, H = s.heap := ⟨_, rfl⟩
  obtain ⟨locs, hlc⟩ : ∃ locs : List Loc, locs = [] := ⟨_, rfl⟩
  have hw : Wd D A s.heap H locs (wX7 o cA oM) := by rw [hH, hlc]; exact hw
  have goal : W p l e rmX7_read s m ([.ref (o 0)] : List Value).toArray below meth c H locs 0 0 Q (F0 m 0 ls []) := by
    clear hH hlc
    refine lv_aload_n hx hb dX7_read_0 rfl (lv_at hl 0 rfl) ?_
    refine lv_iconst (v := 0) hx hb dX7_read_1 (by decide) ?_
    refine w_put (ws' := (wX7 o cA ((sI oM 18 0)))) hx hb hts hi7 tyX7 tyX7_ok nmX7 hown hK hw 0 rfl rfl 18 (by decide) q0 rfl rfl rfl rfl (Nat.le_of_ble_eq_true rfl) rfl dX7_read_2 (fun H locs hw => ?_)
    refine lv_aload_n hx hb dX7_read_5 rfl (lv_at hl 0 rfl) ?_
    refine lv_iconst (v := 0) hx hb dX7_read_6 (by decide) ?_
    refine w_put (ws' := (wX7 o cA ((sI (sI oM 18 0) 22 0)))) hx hb hts hi7 tyX7 tyX7_ok nmX7 hown hK hw 0 rfl rfl 22 (by decide) q1 rfl rfl rfl rfl (Nat.le_of_ble_eq_true rfl) rfl dX7_read_7 (fun H locs hw => ?_)
    refine lv_iconst (v := 0) hx hb dX7_read_10 (by decide) ?_
    refine lv_istore_n (lv' := [(1, .int 0), (0, .ref (o 0))]) hx hb dX7_read_11 rfl hl (by decide) rfl (fun ls hl => ?_)
    exact h_L12  _ 0 ((sI (sI oM 18 0) 22 0)) hf H locs ls hw (lv_sub hl [1, 0] rfl)
  rw [hH, hlc] at goal
  exact goal
abbrev rmX7_fault : Room := { frames := 5, cells := 0, slots := 0, locals := 107 }
theorem hd_X7_fault : yX7_fault.cls = RX7 ∧ yX7_fault.cls ≠ "java/lang/invoke/MethodHandle" ∧ yX7_fault.cls ≠ "java/lang/invoke/VarHandle" ∧ (parseMethodDescriptor yX7_fault.desc).map (fun d => d.parameters.length) = some 0 := by decide +kernel
set_option maxHeartbeats 4000000 in
set_option maxRecDepth 100000 in
theorem k_X7_fault (l : Launch) (D : va_G) (cA : ClassId) (o : Nat → Nat) (oM : St) (r : Int32) (oM' : St) (hf : f_X7_fault oM = some (r, oM')) : Mi l yX7_fault wsX7_fault rmX7_fault D cA z_0 [.ref (o 0)] (wX7 o cA oM) r (wX7 o cA oM') := by
  refine Mi.of (cc := cX7_fault) (maxL := 1) (ret := (some .int)) (plainFor_of_name (by decide)) rfl (Nat.le_of_ble_eq_true rfl) (Or.inl rfl) ?_
  intro p e s m below meth c A Q hx hb hml hown hts hK hA hZ hret ls hl hw
  replace hown : s.vm.findClass RX7 = some m.cls := hown
  have hl : lv_has ls 1 [(0, .ref (o 0))] := hl
  have hZo := z_0_ok
  unfold f_X7_fault at hf
  obtain ⟨H, hH⟩ : ∃ H, H = s.heap := ⟨_, rfl⟩
  obtain ⟨locs, hlc⟩ : ∃ locs : List Loc, locs = [] := ⟨_, rfl⟩
  have hw : Wd D A s.heap H locs (wX7 o cA oM) := by rw [hH, hlc]; exact hw
  have goal : W p l e rmX7_fault s m ([.ref (o 0)] : List Value).toArray below meth c H locs 0 0 Q (F0 m 0 ls []) := by
    clear hH hlc
    refine lv_aload_n hx hb dX7_fault_0 rfl (lv_at hl 0 rfl) ?_
    obtain ⟨x1, oM2, g3, hf⟩ := bn2_e hf
    have fr := fr_X7_X7_oM o cA oM oM2
    refine go_i (run_v (As := []) (rest := []) ⟨hx, hb, hml, hown, hts⟩ (k_X7_read l D cA o oM x1 oM2 g3 H.size) (cwV 0 hts gX7_fault_X7_read rfl rfl rfl hd_X7_read ⟨Nat.le_of_ble_eq_true rfl, Nat.le_of_ble_eq_true rfl⟩) fr hw hK hA hZo hZ (ci := 7) rfl rfl rfl rfl hl.1 rfl (Nat.le_of_ble_eq_true rfl) dX7_fault_1 ⟨Nat.zero_le _, Nat.zero_le _⟩) fr hw hA (fun H locs hw => ?_)
    obtain ⟨e0_, e1_⟩ := sm2 hf
    exact hret _ _ _ _ _ (by rw [← e1_]; exact hw) e0_ (Or.inl rfl) dX7_fault_4
  rw [hH, hlc] at goal
  exact goal
abbrev rmX7_sheet : Room := { frames := 5, cells := 0, slots := 0, locals := 107 }
theorem hd_X7_sheet : yX7_sheet.cls = RX7 ∧ yX7_sheet.cls ≠ "java/lang/invoke/MethodHandle" ∧ yX7_sheet.cls ≠ "java/lang/invoke/VarHandle" ∧ (parseMethodDescriptor yX7_sheet.desc).map (fun d => d.parameters.length) = some 0 := by decide +kernel
set_option maxHeartbeats 4000000 in
set_option maxRecDepth 100000 in
theorem k_X7_sheet (l : Launch) (D : va_G) (cA : ClassId) (o : Nat → Nat) (oM : St) (r : Int32) (oM' : St) (hf : f_X7_sheet oM = some (r, oM')) : Mi l yX7_sheet wsX7_sheet rmX7_sheet D cA z_0 [.ref (o 0)] (wX7 o cA oM) r (wX7 o cA oM') := by
  refine Mi.of (cc := cX7_sheet) (maxL := 2) (ret := (some .int)) (plainFor_of_name (by decide)) rfl (Nat.le_of_ble_eq_true rfl) (Or.inl rfl) ?_
  intro p e s m below meth c A Q hx hb hml hown hts hK hA hZ hret ls hl hw
  replace hown : s.vm.findClass RX7 = some m.cls := hown
  have hl : lv_has ls 2 [(0, .ref (o 0))] := hl
  have hZo := z_0_ok
  have hi7 : ∀ w ∈ wsX70, w ∈ wsX7_sheet := fun w h => List.mem_cons_of_mem _ (List.mem_append_right _ h)
  have q0 := hts (.fieldLink RX7 62 "ArcRingsModel" "pageLength" "I") (by decide +kernel)
  have q1 := hts (.fieldLink RX7 69 "ArcRingsModel" "stage" "I") (by decide +kernel)
  have q2 := hts (.fieldLink RX7 79 "ArcRingsModel" "newWide" "I") (by decide +kernel)
  have q3 := hts (.fieldLink RX7 115 "ArcRingsModel" "wide" "I") (by decide +kernel)
  have q4 := hts (.fieldLink RX7 72 "ArcRingsModel" "newDots" "I") (by decide +kernel)
  have q5 := hts (.fieldLink RX7 85 "ArcRingsModel" "newHigh" "I") (by decide +kernel)
  have q6 := hts (.fieldLink RX7 118 "ArcRingsModel" "high" "I") (by decide +kernel)
  have q7 := hts (.fieldLink RX7 121 "ArcRingsModel" "dots" "I") (by decide +kernel)
  have q8 := hts (.fieldLink RX7 13 "ArcRingsModel" "dotX" "[I") (by decide +kernel)
  have q9 := hts (.fieldLink RX7 37 "ArcRingsModel" "newX" "[I") (by decide +kernel)
  have q10 := hts (.fieldLink RX7 16 "ArcRingsModel" "dotY" "[I") (by decide +kernel)
  have q11 := hts (.fieldLink RX7 40 "ArcRingsModel" "newY" "[I") (by decide +kernel)
  have q12 := hts (.fieldLink RX7 19 "ArcRingsModel" "turnOf" "[I") (by decide +kernel)
  have q13 := hts (.fieldLink RX7 43 "ArcRingsModel" "newTurn" "[I") (by decide +kernel)
  have q14 := hts (.fieldLink RX7 22 "ArcRingsModel" "bounds" "[I") (by decide +kernel)
  have q15 := hts (.fieldLink RX7 124 "ArcRingsModel" "isHunted" "Z") (by decide +kernel)
  have q16 := hts (.fieldLink RX7 128 "ArcRingsModel" "sheets" "I") (by decide +kernel)
  have q17 := hts (.fieldLink RX7 66 "ArcRingsModel" "newSide" "I") (by decide +kernel)
  have h_L62 : ∀ (K : St → Option (Int32 × St)), (∀ (z0 : St), K z0 = some (r, oM') → ∀ (H : Heap) (locs : List Loc) (ls : Array Slot), Wd D A s.heap H locs (wX7 o cA z0) → lv_has ls 2 [(0, .ref (o 0))] → W p l e rmX7_sheet s m ([.ref (o 0)] : List Value).toArray below meth c H locs 0 0 Q (F0 m 112 ls [])) → ∀ (n : Nat) (v1 : Int32) (oM : St), f_X7_sheet_L62 K n v1 oM = some (r, oM') → ∀ (H : Heap) (locs : List Loc) (ls : Array Slot), Wd D A s.heap H locs (wX7 o cA oM) → lv_has ls 2 [(0, .ref (o 0)), (1, .int v1)] → W p l e rmX7_sheet s m ([.ref (o 0)] : List Value).toArray below meth c H locs 0 0 Q (F0 m 62 ls []) := by
    intro K hK9 n
    induction n with
    | zero =>
      intro v1 oM hf
      have hf : none = some (r, oM') := hf
      cases hf
    | succ n ih =>
      intro v1 oM hf H locs ls hw hl
      have hf := (f_X7_sheet_L62_s K n v1 oM).symm.trans hf
      refine lv_iload_n hx hb dX7_sheet_62 rfl (lv_at hl 1 rfl) ?_
      refine lv_aload_n hx hb dX7_sheet_63 rfl (lv_at hl 0 rfl) ?_
      refine w_get hx hb hts hi7 hown hK hw 0 rfl rfl 5 (by decide) q7 rfl (v := .int (oM.1 5)) rfl dX7_sheet_64 ?_
      refine lv_icmp_ge (tgt := 112) hx hb dX7_sheet_67 (by decide) (fun c7 => ?_) (fun c7 => ?_)
      · have hf := if_t c7 hf
        exact hK9 oM hf H locs ls hw (lv_sub hl [0] rfl)
      · have hf := if_f c7 hf
        refine lv_aload_n hx hb dX7_sheet_70 rfl (lv_at hl 0 rfl) ?_
        refine w_get hx hb hts hi7 hown hK hw 0 rfl rfl 6 (by decide) q8 rfl (v := .ref (o 2)) rfl dX7_sheet_71 ?_
        refine lv_iload_n hx hb dX7_sheet_74 rfl (lv_at hl 1 rfl) ?_
        refine lv_aload_n hx hb dX7_sheet_75 rfl (lv_at hl 0 rfl) ?_
        refine w_get hx hb hts hi7 hown hK hw 0 rfl rfl 23 (by decide) q9 rfl (v := .ref (o 10)) rfl dX7_sheet_76 ?_
        refine lv_iload_n hx hb dX7_sheet_79 rfl (lv_at hl 1 rfl) ?_
        obtain ⟨x8, g9, hf⟩ := bn1_e hf
        refine w_ald hx hb hK hw 10 rfl g9 dX7_sheet_80 ?_
        obtain ⟨oM11, g10, hf⟩ := bn1_e hf
        refine w_aws hx hb hK hw 2 rfl g10 (fun z => (wX7 o cA z)) (fun _ => rfl) dX7_sheet_81 (fun H locs hw => ?_)
        refine lv_aload_n hx hb dX7_sheet_82 rfl (lv_at hl 0 rfl) ?_
        refine w_get hx hb hts hi7 hown hK hw 0 rfl rfl 7 (by decide) q10 rfl (v := .ref (o 3)) rfl dX7_sheet_83 ?_
        refine lv_iload_n hx hb dX7_sheet_86 rfl (lv_at hl 1 rfl) ?_
        refine lv_aload_n hx hb dX7_sheet_87 rfl (lv_at hl 0 rfl) ?_
        refine w_get hx hb hts hi7 hown hK hw 0 rfl rfl 24 (by decide) q11 rfl (v := .ref (o 11)) rfl dX7_sheet_88 ?_
        refine lv_iload_n hx hb dX7_sheet_91 rfl (lv_at hl 1 rfl) ?_
        obtain ⟨x12, g13, hf⟩ := bn1_e hf
        refine w_ald hx hb hK hw 11 rfl g13 dX7_sheet_92 ?_
        obtain ⟨oM15, g14, hf⟩ := bn1_e hf
        refine w_aws hx hb hK hw 3 rfl g14 (fun z => (wX7 o cA z)) (fun _ => rfl) dX7_sheet_93 (fun H locs hw => ?_)
        refine lv_aload_n hx hb dX7_sheet_94 rfl (lv_at hl 0 rfl) ?_
        refine w_get hx hb hts hi7 hown hK hw 0 rfl rfl 8 (by decide) q12 rfl (v := .ref (o 4)) rfl dX7_sheet_95 ?_
        refine lv_iload_n hx hb dX7_sheet_98 rfl (lv_at hl 1 rfl) ?_
        refine lv_aload_n hx hb dX7_sheet_99 rfl (lv_at hl 0 rfl) ?_
        refine w_get hx hb hts hi7 hown hK hw 0 rfl rfl 25 (by decide) q13 rfl (v := .ref (o 12)) rfl dX7_sheet_100 ?_
        refine lv_iload_n hx hb dX7_sheet_103 rfl (lv_at hl 1 rfl) ?_
        obtain ⟨x16, g17, hf⟩ := bn1_e hf
        refine w_ald hx hb hK hw 12 rfl g17 dX7_sheet_104 ?_
        obtain ⟨oM19, g18, hf⟩ := bn1_e hf
        refine w_aws hx hb hK hw 4 rfl g18 (fun z => (wX7 o cA z)) (fun _ => rfl) dX7_sheet_105 (fun H locs hw => ?_)
        refine lv_iinc (v := v1 + 1) (lv' := [(1, .int (v1 + 1)), (0, .ref (o 0))]) hx hb dX7_sheet_106 hl (k := 1) rfl (by rfl) (by decide) rfl (fun ls hl => ?_)
        refine lv_goto (tgt := 62) hx hb dX7_sheet_109 (by decide) ?_
        exact ih (v1 + 1) oM19 hf H locs ls hw (lv_sub hl [1, 0] rfl)
  unfold f_X7_sheet at hf
  obtain ⟨H, hH⟩ : ∃ H, H = s.heap := ⟨_, rfl⟩
  obtain ⟨locs, hlc⟩ : ∃ locs : List Loc, locs = [] := ⟨_, rfl⟩
  have hw : Wd D A s.heap H locs (wX7 o cA oM) := by rw [hH, hlc]; exact hw
  have goal : W p l e rmX7_sheet s m ([.ref (o 0)] : List Value).toArray below meth c H locs 0 0 Q (F0 m 0 ls []) := by
    clear hH hlc
    refine lv_aload_n hx hb dX7_sheet_0 rfl (lv_at hl 0 rfl) ?_
    obtain ⟨x1, oM2, g3, hf⟩ := bn2_e hf
    have fr := fr_X7_X7_oM o cA oM oM2
    refine go_i (run_v (As := []) (rest := []) ⟨hx, hb, hml, hown, hts⟩ (k_X7_read l D cA o oM x1 oM2 g3 H.size) (cwV 0 hts gX7_sheet_X7_read rfl rfl rfl hd_X7_read ⟨Nat.le_of_ble_eq_true rfl, Nat.le_of_ble_eq_true rfl⟩) fr hw hK hA hZo hZ (ci := 7) rfl rfl rfl rfl hl.1 rfl (Nat.le_of_ble_eq_true rfl) dX7_sheet_1 ⟨Nat.zero_le _, Nat.zero_le _⟩) fr hw hA (fun H locs hw => ?_)
    refine lv_aload_n hx hb dX7_sheet_4 rfl (lv_at hl 0 rfl) ?_
    refine w_get hx hb hts hi7 hown hK hw 0 rfl rfl 0 (by decide) q0 rfl (v := .int (oM2.1 0)) rfl dX7_sheet_5 ?_
    refine lv_icmp_lt (tgt := 19) hx hb dX7_sheet_8 (by decide) (fun c4 => ?_) (fun c4 => ?_)
    · have hf := if_t c4 hf
      refine lv_bipush (v := (-103)) hx hb dX7_sheet_19 (by decide) ?_
      obtain ⟨e0_, e1_⟩ := sm2 hf
      exact hret _ _ _ _ _ (by rw [← e1_]; exact hw) e0_ (Or.inl rfl) dX7_sheet_21
    · have hf := if_f c4 hf
      refine lv_aload_n hx hb dX7_sheet_11 rfl (lv_at hl 0 rfl) ?_
      refine w_get hx hb hts hi7 hown hK hw 0 rfl rfl 18 (by decide) q1 rfl (v := .int (oM2.1 18)) rfl dX7_sheet_12 ?_
      refine lv_iconst (v := 4) hx hb dX7_sheet_15 (by decide) ?_
      refine lv_icmp_eq (tgt := 22) hx hb dX7_sheet_16 (by decide) (fun c5 => ?_) (fun c5 => ?_)
      · have hf := if_t c5 hf
        refine lv_aload_n hx hb dX7_sheet_22 rfl (lv_at hl 0 rfl) ?_
        refine lv_aload_n hx hb dX7_sheet_23 rfl (lv_at hl 0 rfl) ?_
        refine w_get hx hb hts hi7 hown hK hw 0 rfl rfl 20 (by decide) q2 rfl (v := .int (oM2.1 20)) rfl dX7_sheet_24 ?_
        refine w_put (ws' := (wX7 o cA ((sI oM2 2 (oM2.1 20))))) hx hb hts hi7 tyX7 tyX7_ok nmX7 hown hK hw 0 rfl rfl 2 (by decide) q3 rfl rfl rfl rfl (Nat.le_of_ble_eq_true rfl) rfl dX7_sheet_27 (fun H locs hw => ?_)
        refine lv_aload_n hx hb dX7_sheet_30 rfl (lv_at hl 0 rfl) ?_
        refine lv_aload_n hx hb dX7_sheet_31 rfl (lv_at hl 0 rfl) ?_
        refine w_get hx hb hts hi7 hown hK hw 0 rfl rfl 22 (by decide) q4 rfl (v := .int (oM2.1 22)) rfl dX7_sheet_32 ?_
        refine lv_if_ne (tgt := 45) hx hb dX7_sheet_35 (by decide) (fun c6 => ?_) (fun c6 => ?_)
        · have hf := if_f c6 hf
          refine lv_aload_n hx hb dX7_sheet_45 rfl (lv_at hl 0 rfl) ?_
          refine w_get hx hb hts hi7 hown hK hw 0 rfl rfl 21 (by decide) q5 rfl (v := .int (oM2.1 21)) rfl dX7_sheet_46 ?_
          refine w_put (ws' := (wX7 o cA ((sI (sI oM2 2 (oM2.1 20)) 3 (oM2.1 21))))) hx hb hts hi7 tyX7 tyX7_ok nmX7 hown hK hw 0 rfl rfl 3 (by decide) q6 rfl rfl rfl rfl (Nat.le_of_ble_eq_true rfl) rfl dX7_sheet_49 (fun H locs hw => ?_)
          refine lv_aload_n hx hb dX7_sheet_52 rfl (lv_at hl 0 rfl) ?_
          refine lv_aload_n hx hb dX7_sheet_53 rfl (lv_at hl 0 rfl) ?_
          refine w_get hx hb hts hi7 hown hK hw 0 rfl rfl 22 (by decide) q4 rfl (v := .int (oM2.1 22)) rfl dX7_sheet_54 ?_
          refine w_put (ws' := (wX7 o cA ((sI (sI (sI oM2 2 (oM2.1 20)) 3 (oM2.1 21)) 5 (oM2.1 22))))) hx hb hts hi7 tyX7 tyX7_ok nmX7 hown hK hw 0 rfl rfl 5 (by decide) q7 rfl rfl rfl rfl (Nat.le_of_ble_eq_true rfl) rfl dX7_sheet_57 (fun H locs hw => ?_)
          refine lv_iconst (v := 0) hx hb dX7_sheet_60 (by decide) ?_
          refine lv_istore_n (lv' := [(1, .int 0), (0, .ref (o 0))]) hx hb dX7_sheet_61 rfl hl (by decide) rfl (fun ls hl => ?_)
          refine h_L62  _ ?_ _ 0 ((sI (sI (sI oM2 2 (oM2.1 20)) 3 (oM2.1 21)) 5 (oM2.1 22))) hf H locs ls hw (lv_sub hl [1, 0] rfl)
          intro oM20 hf H locs ls hw hl
          refine lv_aload_n hx hb dX7_sheet_112 rfl (lv_at hl 0 rfl) ?_
          refine w_get hx hb hts hi7 hown hK hw 0 rfl rfl 9 (by decide) q14 rfl (v := .ref (o 5)) rfl dX7_sheet_113 ?_
          refine lv_iconst (v := 0) hx hb dX7_sheet_116 (by decide) ?_
          refine lv_iconst (v := 2) hx hb dX7_sheet_117 (by decide) ?_
          obtain ⟨oM22, g21, hf⟩ := bn1_e hf
          refine w_aws hx hb hK hw 5 rfl g21 (fun z => (wX7 o cA z)) (fun _ => rfl) dX7_sheet_118 (fun H locs hw => ?_)
          refine lv_aload_n hx hb dX7_sheet_119 rfl (lv_at hl 0 rfl) ?_
          refine w_get hx hb hts hi7 hown hK hw 0 rfl rfl 9 (by decide) q14 rfl (v := .ref (o 5)) rfl dX7_sheet_120 ?_
          refine lv_iconst (v := 1) hx hb dX7_sheet_123 (by decide) ?_
          refine lv_bipush (v := 12) hx hb dX7_sheet_124 (by decide) ?_
          obtain ⟨oM24, g23, hf⟩ := bn1_e hf
          refine w_aws hx hb hK hw 5 rfl g23 (fun z => (wX7 o cA z)) (fun _ => rfl) dX7_sheet_126 (fun H locs hw => ?_)
          refine lv_aload_n hx hb dX7_sheet_127 rfl (lv_at hl 0 rfl) ?_
          refine w_get hx hb hts hi7 hown hK hw 0 rfl rfl 9 (by decide) q14 rfl (v := .ref (o 5)) rfl dX7_sheet_128 ?_
          refine lv_iconst (v := 2) hx hb dX7_sheet_131 (by decide) ?_
          refine lv_iconst (v := 1) hx hb dX7_sheet_132 (by decide) ?_
          obtain ⟨oM26, g25, hf⟩ := bn1_e hf
          refine w_aws hx hb hK hw 5 rfl g25 (fun z => (wX7 o cA z)) (fun _ => rfl) dX7_sheet_133 (fun H locs hw => ?_)
          refine lv_aload_n hx hb dX7_sheet_134 rfl (lv_at hl 0 rfl) ?_
          refine w_get hx hb hts hi7 hown hK hw 0 rfl rfl 9 (by decide) q14 rfl (v := .ref (o 5)) rfl dX7_sheet_135 ?_
          refine lv_iconst (v := 3) hx hb dX7_sheet_138 (by decide) ?_
          refine lv_iconst (v := 4) hx hb dX7_sheet_139 (by decide) ?_
          obtain ⟨oM28, g27, hf⟩ := bn1_e hf
          refine w_aws hx hb hK hw 5 rfl g27 (fun z => (wX7 o cA z)) (fun _ => rfl) dX7_sheet_140 (fun H locs hw => ?_)
          refine lv_aload_n hx hb dX7_sheet_141 rfl (lv_at hl 0 rfl) ?_
          refine w_get hx hb hts hi7 hown hK hw 0 rfl rfl 9 (by decide) q14 rfl (v := .ref (o 5)) rfl dX7_sheet_142 ?_
          refine lv_iconst (v := 4) hx hb dX7_sheet_145 (by decide) ?_
          refine lv_iconst (v := 3) hx hb dX7_sheet_146 (by decide) ?_
          obtain ⟨oM30, g29, hf⟩ := bn1_e hf
          refine w_aws hx hb hK hw 5 rfl g29 (fun z => (wX7 o cA z)) (fun _ => rfl) dX7_sheet_147 (fun H locs hw => ?_)
          refine lv_aload_n hx hb dX7_sheet_148 rfl (lv_at hl 0 rfl) ?_
          refine lv_iconst (v := 0) hx hb dX7_sheet_149 (by decide) ?_
          refine w_put (ws' := (wX7 o cA ((sI oM30 10 0)))) hx hb hts hi7 tyX7 tyX7_ok nmX7 hown hK hw 0 rfl rfl 10 (by decide) q15 rfl rfl (by decide) (by decide) (Nat.le_of_ble_eq_true rfl) rfl dX7_sheet_150 (fun H locs hw => ?_)
          refine lv_aload_n hx hb dX7_sheet_153 rfl (lv_at hl 0 rfl) ?_
          refine lv_dup hx hb dX7_sheet_154 rfl ?_
          refine w_get hx hb hts hi7 hown hK hw 0 rfl rfl 4 (by decide) q16 rfl (v := .int (oM30.1 4)) rfl dX7_sheet_155 ?_
          refine lv_iconst (v := 1) hx hb dX7_sheet_158 (by decide) ?_
          refine lv_iadd hx hb dX7_sheet_159 ?_
          refine w_put (ws' := (wX7 o cA ((sI (sI oM30 10 0) 4 ((oM30.1 4) + 1))))) hx hb hts hi7 tyX7 tyX7_ok nmX7 hown hK hw 0 rfl rfl 4 (by decide) q16 rfl rfl rfl rfl (Nat.le_of_ble_eq_true rfl) rfl dX7_sheet_160 (fun H locs hw => ?_)
          refine lv_aload_n hx hb dX7_sheet_163 rfl (lv_at hl 0 rfl) ?_
          refine lv_iconst (v := 0) hx hb dX7_sheet_164 (by decide) ?_
          refine w_put (ws' := (wX7 o cA ((sI (sI (sI oM30 10 0) 4 ((oM30.1 4) + 1)) 0 0)))) hx hb hts hi7 tyX7 tyX7_ok nmX7 hown hK hw 0 rfl rfl 0 (by decide) q0 rfl rfl rfl rfl (Nat.le_of_ble_eq_true rfl) rfl dX7_sheet_165 (fun H locs hw => ?_)
          refine lv_aload_n hx hb dX7_sheet_168 rfl (lv_at hl 0 rfl) ?_
          refine w_get hx hb hts hi7 hown hK hw 0 rfl rfl 5 (by decide) q7 rfl (v := .int (oM30.1 5)) rfl dX7_sheet_169 ?_
          obtain ⟨e0_, e1_⟩ := sm2 hf
          exact hret _ _ _ _ _ (by rw [← e1_]; exact hw) e0_ (Or.inl rfl) dX7_sheet_172
        · have hf := if_t c6 hf
          refine lv_aload_n hx hb dX7_sheet_38 rfl (lv_at hl 0 rfl) ?_
          refine w_get hx hb hts hi7 hown hK hw 0 rfl rfl 19 (by decide) q17 rfl (v := .int (oM2.1 19)) rfl dX7_sheet_39 ?_
          refine lv_goto (tgt := 49) hx hb dX7_sheet_42 (by decide) ?_
          refine w_put (ws' := (wX7 o cA ((sI (sI oM2 2 (oM2.1 20)) 3 (oM2.1 19))))) hx hb hts hi7 tyX7 tyX7_ok nmX7 hown hK hw 0 rfl rfl 3 (by decide) q6 rfl rfl rfl rfl (Nat.le_of_ble_eq_true rfl) rfl dX7_sheet_49 (fun H locs hw => ?_)
          refine lv_aload_n hx hb dX7_sheet_52 rfl (lv_at hl 0 rfl) ?_
          refine lv_aload_n hx hb dX7_sheet_53 rfl (lv_at hl 0 rfl) ?_
          refine w_get hx hb hts hi7 hown hK hw 0 rfl rfl 22 (by decide) q4 rfl (v := .int (oM2.1 22)) rfl dX7_sheet_54 ?_
          refine w_put (ws' := (wX7 o cA ((sI (sI (sI oM2 2 (oM2.1 20)) 3 (oM2.1 19)) 5 (oM2.1 22))))) hx hb hts hi7 tyX7 tyX7_ok nmX7 hown hK hw 0 rfl rfl 5 (by decide) q7 rfl rfl rfl rfl (Nat.le_of_ble_eq_true rfl) rfl dX7_sheet_57 (fun H locs hw => ?_)
          refine lv_iconst (v := 0) hx hb dX7_sheet_60 (by decide) ?_
          refine lv_istore_n (lv' := [(1, .int 0), (0, .ref (o 0))]) hx hb dX7_sheet_61 rfl hl (by decide) rfl (fun ls hl => ?_)
          refine h_L62  _ ?_ _ 0 ((sI (sI (sI oM2 2 (oM2.1 20)) 3 (oM2.1 19)) 5 (oM2.1 22))) hf H locs ls hw (lv_sub hl [1, 0] rfl)
          intro oM31 hf H locs ls hw hl
          refine lv_aload_n hx hb dX7_sheet_112 rfl (lv_at hl 0 rfl) ?_
          refine w_get hx hb hts hi7 hown hK hw 0 rfl rfl 9 (by decide) q14 rfl (v := .ref (o 5)) rfl dX7_sheet_113 ?_
          refine lv_iconst (v := 0) hx hb dX7_sheet_116 (by decide) ?_
          refine lv_iconst (v := 2) hx hb dX7_sheet_117 (by decide) ?_
          obtain ⟨oM33, g32, hf⟩ := bn1_e hf
          refine w_aws hx hb hK hw 5 rfl g32 (fun z => (wX7 o cA z)) (fun _ => rfl) dX7_sheet_118 (fun H locs hw => ?_)
          refine lv_aload_n hx hb dX7_sheet_119 rfl (lv_at hl 0 rfl) ?_
          refine w_get hx hb hts hi7 hown hK hw 0 rfl rfl 9 (by decide) q14 rfl (v := .ref (o 5)) rfl dX7_sheet_120 ?_
          refine lv_iconst (v := 1) hx hb dX7_sheet_123 (by decide) ?_
          refine lv_bipush (v := 12) hx hb dX7_sheet_124 (by decide) ?_
          obtain ⟨oM35, g34, hf⟩ := bn1_e hf
          refine w_aws hx hb hK hw 5 rfl g34 (fun z => (wX7 o cA z)) (fun _ => rfl) dX7_sheet_126 (fun H locs hw => ?_)
          refine lv_aload_n hx hb dX7_sheet_127 rfl (lv_at hl 0 rfl) ?_
          refine w_get hx hb hts hi7 hown hK hw 0 rfl rfl 9 (by decide) q14 rfl (v := .ref (o 5)) rfl dX7_sheet_128 ?_
          refine lv_iconst (v := 2) hx hb dX7_sheet_131 (by decide) ?_
          refine lv_iconst (v := 1) hx hb dX7_sheet_132 (by decide) ?_
          obtain ⟨oM37, g36, hf⟩ := bn1_e hf
          refine w_aws hx hb hK hw 5 rfl g36 (fun z => (wX7 o cA z)) (fun _ => rfl) dX7_sheet_133 (fun H locs hw => ?_)
          refine lv_aload_n hx hb dX7_sheet_134 rfl (lv_at hl 0 rfl) ?_
          refine w_get hx hb hts hi7 hown hK hw 0 rfl rfl 9 (by decide) q14 rfl (v := .ref (o 5)) rfl dX7_sheet_135 ?_
          refine lv_iconst (v := 3) hx hb dX7_sheet_138 (by decide) ?_
          refine lv_iconst (v := 4) hx hb dX7_sheet_139 (by decide) ?_
          obtain ⟨oM39, g38, hf⟩ := bn1_e hf
          refine w_aws hx hb hK hw 5 rfl g38 (fun z => (wX7 o cA z)) (fun _ => rfl) dX7_sheet_140 (fun H locs hw => ?_)
          refine lv_aload_n hx hb dX7_sheet_141 rfl (lv_at hl 0 rfl) ?_
          refine w_get hx hb hts hi7 hown hK hw 0 rfl rfl 9 (by decide) q14 rfl (v := .ref (o 5)) rfl dX7_sheet_142 ?_
          refine lv_iconst (v := 4) hx hb dX7_sheet_145 (by decide) ?_
          refine lv_iconst (v := 3) hx hb dX7_sheet_146 (by decide) ?_
          obtain ⟨oM41, g40, hf⟩ := bn1_e hf
          refine w_aws hx hb hK hw 5 rfl g40 (fun z => (wX7 o cA z)) (fun _ => rfl) dX7_sheet_147 (fun H locs hw => ?_)
          refine lv_aload_n hx hb dX7_sheet_148 rfl (lv_at hl 0 rfl) ?_
          refine lv_iconst (v := 0) hx hb dX7_sheet_149 (by decide) ?_
          refine w_put (ws' := (wX7 o cA ((sI oM41 10 0)))) hx hb hts hi7 tyX7 tyX7_ok nmX7 hown hK hw 0 rfl rfl 10 (by decide) q15 rfl rfl (by decide) (by decide) (Nat.le_of_ble_eq_true rfl) rfl dX7_sheet_150 (fun H locs hw => ?_)
          refine lv_aload_n hx hb dX7_sheet_153 rfl (lv_at hl 0 rfl) ?_
          refine lv_dup hx hb dX7_sheet_154 rfl ?_
          refine w_get hx hb hts hi7 hown hK hw 0 rfl rfl 4 (by decide) q16 rfl (v := .int (oM41.1 4)) rfl dX7_sheet_155 ?_
          refine lv_iconst (v := 1) hx hb dX7_sheet_158 (by decide) ?_
          refine lv_iadd hx hb dX7_sheet_159 ?_
          refine w_put (ws' := (wX7 o cA ((sI (sI oM41 10 0) 4 ((oM41.1 4) + 1))))) hx hb hts hi7 tyX7 tyX7_ok nmX7 hown hK hw 0 rfl rfl 4 (by decide) q16 rfl rfl rfl rfl (Nat.le_of_ble_eq_true rfl) rfl dX7_sheet_160 (fun H locs hw => ?_)
          refine lv_aload_n hx hb dX7_sheet_163 rfl (lv_at hl 0 rfl) ?_
          refine lv_iconst (v := 0) hx hb dX7_sheet_164 (by decide) ?_
          refine w_put (ws' := (wX7 o cA ((sI (sI (sI oM41 10 0) 4 ((oM41.1 4) + 1)) 0 0)))) hx hb hts hi7 tyX7 tyX7_ok nmX7 hown hK hw 0 rfl rfl 0 (by decide) q0 rfl rfl rfl rfl (Nat.le_of_ble_eq_true rfl) rfl dX7_sheet_165 (fun H locs hw => ?_)
          refine lv_aload_n hx hb dX7_sheet_168 rfl (lv_at hl 0 rfl) ?_
          refine w_get hx hb hts hi7 hown hK hw 0 rfl rfl 5 (by decide) q7 rfl (v := .int (oM41.1 5)) rfl dX7_sheet_169 ?_
          obtain ⟨e0_, e1_⟩ := sm2 hf
          exact hret _ _ _ _ _ (by rw [← e1_]; exact hw) e0_ (Or.inl rfl) dX7_sheet_172
      · have hf := if_f c5 hf
        refine lv_bipush (v := (-103)) hx hb dX7_sheet_19 (by decide) ?_
        obtain ⟨e0_, e1_⟩ := sm2 hf
        exact hret _ _ _ _ _ (by rw [← e1_]; exact hw) e0_ (Or.inl rfl) dX7_sheet_21
  rw [hH, hlc] at goal
  exact goal
abbrev rmX7_isSheet : Room := { frames := 0, cells := 0, slots := 0, locals := 0 }
theorem hd_X7_isSheet : yX7_isSheet.cls = RX7 ∧ yX7_isSheet.cls ≠ "java/lang/invoke/MethodHandle" ∧ yX7_isSheet.cls ≠ "java/lang/invoke/VarHandle" ∧ (parseMethodDescriptor yX7_isSheet.desc).map (fun d => d.parameters.length) = some 0 := by decide +kernel
set_option maxHeartbeats 4000000 in
set_option maxRecDepth 100000 in
theorem k_X7_isSheet (l : Launch) (D : va_G) (cA : ClassId) (o : Nat → Nat) (oM : St) (r : Int32) (hf : f_X7_isSheet oM = some (r)) : Mi l yX7_isSheet wsX7_isSheet rmX7_isSheet D cA z_0 [.ref (o 0)] (wX7 o cA oM) r (wX7 o cA oM) := by
  refine Mi.of (cc := cX7_isSheet) (maxL := 1) (ret := (some .boolean)) (plainFor_of_name (by decide)) rfl (Nat.le_of_ble_eq_true rfl) (Or.inr rfl) ?_
  intro p e s m below meth c A Q hx hb hml hown hts hK hA hZ hret ls hl hw
  replace hown : s.vm.findClass RX7 = some m.cls := hown
  have hl : lv_has ls 1 [(0, .ref (o 0))] := hl
  have hZo := z_0_ok
  have hi7 : ∀ w ∈ wsX70, w ∈ wsX7_isSheet := fun w h => List.mem_cons_of_mem _ (List.mem_append_right _ h)
  have q0 := hts (.fieldLink RX7 115 "ArcRingsModel" "wide" "I") (by decide +kernel)
  unfold f_X7_isSheet at hf
  obtain ⟨H, hH⟩ : ∃ H, H = s.heap := ⟨_, rfl⟩
  obtain ⟨locs, hlc⟩ : ∃ locs : List Loc, locs = [] := ⟨_, rfl⟩
  have hw : Wd D A s.heap H locs (wX7 o cA oM) := by rw [hH, hlc]; exact hw
  have goal : W p l e rmX7_isSheet s m ([.ref (o 0)] : List Value).toArray below meth c H locs 0 0 Q (F0 m 0 ls []) := by
    clear hH hlc
    refine lv_aload_n hx hb dX7_isSheet_0 rfl (lv_at hl 0 rfl) ?_
    refine w_get hx hb hts hi7 hown hK hw 0 rfl rfl 2 (by decide) q0 rfl (v := .int (oM.1 2)) rfl dX7_isSheet_1 ?_
    refine lv_if_le (tgt := 11) hx hb dX7_isSheet_4 (by decide) (fun c1 => ?_) (fun c1 => ?_)
    · have hf := if_t c1 hf
      refine lv_iconst (v := 0) hx hb dX7_isSheet_11 (by decide) ?_
      have e0_ := sm1 hf
      exact hret _ _ _ _ _ hw e0_ (Or.inr (Or.inl rfl)) dX7_isSheet_12
    · have hf := if_f c1 hf
      refine lv_iconst (v := 1) hx hb dX7_isSheet_7 (by decide) ?_
      refine lv_goto (tgt := 12) hx hb dX7_isSheet_8 (by decide) ?_
      have e0_ := sm1 hf
      exact hret _ _ _ _ _ hw e0_ (Or.inr (Or.inr rfl)) dX7_isSheet_12
  rw [hH, hlc] at goal
  exact goal
abbrev rmX7_inkOne : Room := { frames := 0, cells := 0, slots := 0, locals := 0 }
theorem hd_X7_inkOne : yX7_inkOne.cls = RX7 ∧ yX7_inkOne.cls ≠ "java/lang/invoke/MethodHandle" ∧ yX7_inkOne.cls ≠ "java/lang/invoke/VarHandle" ∧ (parseMethodDescriptor yX7_inkOne.desc).map (fun d => d.parameters.length) = some 1 := by decide +kernel
set_option maxHeartbeats 4000000 in
set_option maxRecDepth 100000 in
theorem k_X7_inkOne (l : Launch) (D : va_G) (cA : ClassId) (o : Nat → Nat) (oM : St) (a1 : Int32) (oM' : St) (hf : f_X7_inkOne oM a1 = some (oM')) : Mv l yX7_inkOne wsX7_inkOne rmX7_inkOne D cA z_0 [.ref (o 0), .int a1] (wX7 o cA oM) (wX7 o cA oM') := by
  refine Mv.of (cc := cX7_inkOne) (maxL := 2) (by decide) rfl (Nat.le_of_ble_eq_true rfl) ?_
  intro p e s m below meth c A Q hx hb hml hown hts hK hA hZ hret ls hl hw
  replace hown : s.vm.findClass RX7 = some m.cls := hown
  have hl : lv_has ls 2 [(0, .ref (o 0)), (1, .int a1)] := hl
  have hZo := z_0_ok
  have hi7 : ∀ w ∈ wsX70, w ∈ wsX7_inkOne := fun w h => List.mem_cons_of_mem _ (List.mem_append_right _ h)
  have q0 := hts (.fieldLink RX7 131 "ArcRingsModel" "inkMany" "I") (by decide +kernel)
  have q1 := hts (.fieldLink RX7 134 "ArcRingsModel" "inkAsked" "I") (by decide +kernel)
  have q2 := hts (.fieldLink RX7 137 "ArcRingsModel" "inkTold" "I") (by decide +kernel)
  unfold f_X7_inkOne at hf
  obtain ⟨H, hH⟩ : ∃ H, H = s.heap := ⟨_, rfl⟩
  obtain ⟨locs, hlc⟩ : ∃ locs : List Loc, locs = [] := ⟨_, rfl⟩
  have hw : Wd D A s.heap H locs (wX7 o cA oM) := by rw [hH, hlc]; exact hw
  have goal : W p l e rmX7_inkOne s m ([.ref (o 0), .int a1] : List Value).toArray below meth c H locs 0 0 Q (F0 m 0 ls []) := by
    clear hH hlc
    refine lv_aload_n hx hb dX7_inkOne_0 rfl (lv_at hl 0 rfl) ?_
    refine lv_aload_n hx hb dX7_inkOne_1 rfl (lv_at hl 0 rfl) ?_
    refine w_get hx hb hts hi7 hown hK hw 0 rfl rfl 27 (by decide) q0 rfl (v := .int (oM.1 27)) rfl dX7_inkOne_2 ?_
    refine lv_aload_n hx hb dX7_inkOne_5 rfl (lv_at hl 0 rfl) ?_
    refine w_get hx hb hts hi7 hown hK hw 0 rfl rfl 26 (by decide) q1 rfl (v := .int (oM.1 26)) rfl dX7_inkOne_6 ?_
    refine lv_icmp_ne (tgt := 16) hx hb dX7_inkOne_9 (by decide) (fun c1 => ?_) (fun c1 => ?_)
    · have hf := if_f c1 hf
      refine lv_aload_n hx hb dX7_inkOne_16 rfl (lv_at hl 0 rfl) ?_
      refine w_get hx hb hts hi7 hown hK hw 0 rfl rfl 28 (by decide) q2 rfl (v := .int (oM.1 28)) rfl dX7_inkOne_17 ?_
      refine w_put (ws' := (wX7 o cA ((sI oM 28 (oM.1 28))))) hx hb hts hi7 tyX7 tyX7_ok nmX7 hown hK hw 0 rfl rfl 28 (by decide) q2 rfl rfl rfl rfl (Nat.le_of_ble_eq_true rfl) rfl dX7_inkOne_20 (fun H locs hw => ?_)
      refine lv_aload_n hx hb dX7_inkOne_23 rfl (lv_at hl 0 rfl) ?_
      refine lv_dup hx hb dX7_inkOne_24 rfl ?_
      refine w_get hx hb hts hi7 hown hK hw 0 rfl rfl 27 (by decide) q0 rfl (v := .int (oM.1 27)) rfl dX7_inkOne_25 ?_
      refine lv_iconst (v := 1) hx hb dX7_inkOne_28 (by decide) ?_
      refine lv_iadd hx hb dX7_inkOne_29 ?_
      refine w_put (ws' := (wX7 o cA ((sI (sI oM 28 (oM.1 28)) 27 ((oM.1 27) + 1))))) hx hb hts hi7 tyX7 tyX7_ok nmX7 hown hK hw 0 rfl rfl 27 (by decide) q0 rfl rfl rfl rfl (Nat.le_of_ble_eq_true rfl) rfl dX7_inkOne_30 (fun H locs hw => ?_)
      have e0_ := sm1 hf
      exact hret _ _ _ _ (by rw [← e0_]; exact hw) dX7_inkOne_33
    · have hf := if_t c1 hf
      refine lv_iload_n hx hb dX7_inkOne_12 rfl (lv_at hl 1 rfl) ?_
      refine lv_goto (tgt := 20) hx hb dX7_inkOne_13 (by decide) ?_
      refine w_put (ws' := (wX7 o cA ((sI oM 28 a1)))) hx hb hts hi7 tyX7 tyX7_ok nmX7 hown hK hw 0 rfl rfl 28 (by decide) q2 rfl rfl rfl rfl (Nat.le_of_ble_eq_true rfl) rfl dX7_inkOne_20 (fun H locs hw => ?_)
      refine lv_aload_n hx hb dX7_inkOne_23 rfl (lv_at hl 0 rfl) ?_
      refine lv_dup hx hb dX7_inkOne_24 rfl ?_
      refine w_get hx hb hts hi7 hown hK hw 0 rfl rfl 27 (by decide) q0 rfl (v := .int (oM.1 27)) rfl dX7_inkOne_25 ?_
      refine lv_iconst (v := 1) hx hb dX7_inkOne_28 (by decide) ?_
      refine lv_iadd hx hb dX7_inkOne_29 ?_
      refine w_put (ws' := (wX7 o cA ((sI (sI oM 28 a1) 27 ((oM.1 27) + 1))))) hx hb hts hi7 tyX7 tyX7_ok nmX7 hown hK hw 0 rfl rfl 27 (by decide) q0 rfl rfl rfl rfl (Nat.le_of_ble_eq_true rfl) rfl dX7_inkOne_30 (fun H locs hw => ?_)
      have e0_ := sm1 hf
      exact hret _ _ _ _ (by rw [← e0_]; exact hw) dX7_inkOne_33
  rw [hH, hlc] at goal
  exact goal
abbrev rmX7_inkSide : Room := { frames := 1, cells := 0, slots := 0, locals := 21 }
theorem hd_X7_inkSide : yX7_inkSide.cls = RX7 ∧ yX7_inkSide.cls ≠ "java/lang/invoke/MethodHandle" ∧ yX7_inkSide.cls ≠ "java/lang/invoke/VarHandle" ∧ (parseMethodDescriptor yX7_inkSide.desc).map (fun d => d.parameters.length) = some 1 := by decide +kernel
set_option maxHeartbeats 4000000 in
set_option maxRecDepth 100000 in
theorem k_X7_inkSide (l : Launch) (D : va_G) (cA : ClassId) (o : Nat → Nat) (oM : St) (a1 : Int32) (oM' : St) (hf : f_X7_inkSide oM a1 = some (oM')) : Mv l yX7_inkSide wsX7_inkSide rmX7_inkSide D cA z_0 [.ref (o 0), .int a1] (wX7 o cA oM) (wX7 o cA oM') := by
  refine Mv.of (cc := cX7_inkSide) (maxL := 2) (by decide) rfl (Nat.le_of_ble_eq_true rfl) ?_
  intro p e s m below meth c A Q hx hb hml hown hts hK hA hZ hret ls hl hw
  replace hown : s.vm.findClass RX7 = some m.cls := hown
  have hl : lv_has ls 2 [(0, .ref (o 0)), (1, .int a1)] := hl
  have hZo := z_0_ok
  unfold f_X7_inkSide at hf
  obtain ⟨H, hH⟩ : ∃ H, H = s.heap := ⟨_, rfl⟩
  obtain ⟨locs, hlc⟩ : ∃ locs : List Loc, locs = [] := ⟨_, rfl⟩
  have hw : Wd D A s.heap H locs (wX7 o cA oM) := by rw [hH, hlc]; exact hw
  have goal : W p l e rmX7_inkSide s m ([.ref (o 0), .int a1] : List Value).toArray below meth c H locs 0 0 Q (F0 m 0 ls []) := by
    clear hH hlc
    refine lv_iload_n hx hb dX7_inkSide_0 rfl (lv_at hl 1 rfl) ?_
    refine lv_bipush (v := 9) hx hb dX7_inkSide_1 (by decide) ?_
    refine lv_icmp_le (tgt := 17) hx hb dX7_inkSide_3 (by decide) (fun c1 => ?_) (fun c1 => ?_)
    · have hf := if_t c1 hf
      refine lv_aload_n hx hb dX7_inkSide_17 rfl (lv_at hl 0 rfl) ?_
      refine lv_bipush (v := 48) hx hb dX7_inkSide_18 (by decide) ?_
      refine lv_iload_n hx hb dX7_inkSide_20 rfl (lv_at hl 1 rfl) ?_
      refine lv_bipush (v := 10) hx hb dX7_inkSide_21 (by decide) ?_
      refine lv_irem hx hb dX7_inkSide_23 (by decide) ?_
      refine lv_iadd hx hb dX7_inkSide_24 ?_
      obtain ⟨oM2, g3, hf⟩ := bn1_e hf
      have fr := fr_X7_X7_oM o cA oM oM2
      refine go_v (run_v (As := [.int (48 + (a1 - a1 / 10 * 10))]) (rest := []) ⟨hx, hb, hml, hown, hts⟩ (k_X7_inkOne l D cA o oM (48 + (a1 - a1 / 10 * 10)) oM2 g3 H.size) (cwV 1 hts gX7_inkSide_X7_inkOne rfl rfl rfl hd_X7_inkOne ⟨Nat.le_of_ble_eq_true rfl, Nat.le_of_ble_eq_true rfl⟩) fr hw hK hA hZo hZ (ci := 7) rfl rfl rfl rfl hl.1 rfl (Nat.le_of_ble_eq_true rfl) dX7_inkSide_25 ⟨Nat.zero_le _, Nat.zero_le _⟩) fr hw hA (fun H locs hw => ?_)
      have e0_ := sm1 hf
      exact hret _ _ _ _ (by rw [← e0_]; exact hw) dX7_inkSide_28
    · have hf := if_f c1 hf
      refine lv_aload_n hx hb dX7_inkSide_6 rfl (lv_at hl 0 rfl) ?_
      refine lv_bipush (v := 48) hx hb dX7_inkSide_7 (by decide) ?_
      refine lv_iload_n hx hb dX7_inkSide_9 rfl (lv_at hl 1 rfl) ?_
      refine lv_bipush (v := 10) hx hb dX7_inkSide_10 (by decide) ?_
      refine lv_idiv hx hb dX7_inkSide_12 (by decide) ?_
      refine lv_iadd hx hb dX7_inkSide_13 ?_
      obtain ⟨oM4, g5, hf⟩ := bn1_e hf
      have fr := fr_X7_X7_oM o cA oM oM4
      refine go_v (run_v (As := [.int (48 + (a1 / 10))]) (rest := []) ⟨hx, hb, hml, hown, hts⟩ (k_X7_inkOne l D cA o oM (48 + (a1 / 10)) oM4 g5 H.size) (cwV 1 hts gX7_inkSide_X7_inkOne rfl rfl rfl hd_X7_inkOne ⟨Nat.le_of_ble_eq_true rfl, Nat.le_of_ble_eq_true rfl⟩) fr hw hK hA hZo hZ (ci := 7) rfl rfl rfl rfl hl.1 rfl (Nat.le_of_ble_eq_true rfl) dX7_inkSide_14 ⟨Nat.zero_le _, Nat.zero_le _⟩) fr hw hA (fun H locs hw => ?_)
      refine lv_aload_n hx hb dX7_inkSide_17 rfl (lv_at hl 0 rfl) ?_
      refine lv_bipush (v := 48) hx hb dX7_inkSide_18 (by decide) ?_
      refine lv_iload_n hx hb dX7_inkSide_20 rfl (lv_at hl 1 rfl) ?_
      refine lv_bipush (v := 10) hx hb dX7_inkSide_21 (by decide) ?_
      refine lv_irem hx hb dX7_inkSide_23 (by decide) ?_
      refine lv_iadd hx hb dX7_inkSide_24 ?_
      obtain ⟨oM6, g7, hf⟩ := bn1_e hf
      have fr := fr_X7_X7_oM o cA oM4 oM6
      refine go_v (run_v (As := [.int (48 + (a1 - a1 / 10 * 10))]) (rest := []) ⟨hx, hb, hml, hown, hts⟩ (k_X7_inkOne l D cA o oM4 (48 + (a1 - a1 / 10 * 10)) oM6 g7 H.size) (cwV 1 hts gX7_inkSide_X7_inkOne rfl rfl rfl hd_X7_inkOne ⟨Nat.le_of_ble_eq_true rfl, Nat.le_of_ble_eq_true rfl⟩) fr hw hK hA hZo hZ (ci := 7) rfl rfl rfl rfl hl.1 rfl (Nat.le_of_ble_eq_true rfl) dX7_inkSide_25 ⟨Nat.zero_le _, Nat.zero_le _⟩) fr hw hA (fun H locs hw => ?_)
      have e0_ := sm1 hf
      exact hret _ _ _ _ (by rw [← e0_]; exact hw) dX7_inkSide_28
  rw [hH, hlc] at goal
  exact goal
abbrev rmX7_inkNow : Room := { frames := 2, cells := 0, slots := 0, locals := 42 }
theorem hd_X7_inkNow : yX7_inkNow.cls = RX7 ∧ yX7_inkNow.cls ≠ "java/lang/invoke/MethodHandle" ∧ yX7_inkNow.cls ≠ "java/lang/invoke/VarHandle" ∧ (parseMethodDescriptor yX7_inkNow.desc).map (fun d => d.parameters.length) = some 1 := by decide +kernel
set_option maxHeartbeats 4000000 in
set_option maxRecDepth 100000 in
theorem k_X7_inkNow (l : Launch) (D : va_G) (cA : ClassId) (o : Nat → Nat) (oM : St) (a1 : Int32) (r : Int32) (oM' : St) (hf : f_X7_inkNow oM a1 = some (r, oM')) : Mi l yX7_inkNow wsX7_inkNow rmX7_inkNow D cA z_0 [.ref (o 0), .int a1] (wX7 o cA oM) r (wX7 o cA oM') := by
  refine Mi.of (cc := cX7_inkNow) (maxL := 3) (ret := (some .int)) (plainFor_of_name (by decide)) rfl (Nat.le_of_ble_eq_true rfl) (Or.inl rfl) ?_
  intro p e s m below meth c A Q hx hb hml hown hts hK hA hZ hret ls hl hw
  replace hown : s.vm.findClass RX7 = some m.cls := hown
  have hl : lv_has ls 3 [(0, .ref (o 0)), (1, .int a1)] := hl
  have hZo := z_0_ok
  have hi7 : ∀ w ∈ wsX70, w ∈ wsX7_inkNow := fun w h => List.mem_cons_of_mem _ (List.mem_append_right _ h)
  have q0 := hts (.fieldLink RX7 134 "ArcRingsModel" "inkAsked" "I") (by decide +kernel)
  have q1 := hts (.fieldLink RX7 131 "ArcRingsModel" "inkMany" "I") (by decide +kernel)
  have q2 := hts (.fieldLink RX7 137 "ArcRingsModel" "inkTold" "I") (by decide +kernel)
  have q3 := hts (.fieldLink RX7 115 "ArcRingsModel" "wide" "I") (by decide +kernel)
  have q4 := hts (.fieldLink RX7 118 "ArcRingsModel" "high" "I") (by decide +kernel)
  have q5 := hts (.fieldLink RX7 121 "ArcRingsModel" "dots" "I") (by decide +kernel)
  have q6 := hts (.fieldLink RX7 13 "ArcRingsModel" "dotX" "[I") (by decide +kernel)
  have q7 := hts (.fieldLink RX7 16 "ArcRingsModel" "dotY" "[I") (by decide +kernel)
  have q8 := hts (.fieldLink RX7 19 "ArcRingsModel" "turnOf" "[I") (by decide +kernel)
  have h_L45 : ∀ (n : Nat) (v2 : Int32) (oM : St), f_X7_inkNow_L45  n v2 oM = some (r, oM') → ∀ (H : Heap) (locs : List Loc) (ls : Array Slot), Wd D A s.heap H locs (wX7 o cA oM) → lv_has ls 3 [(0, .ref (o 0)), (2, .int v2)] → W p l e rmX7_inkNow s m ([.ref (o 0), .int a1] : List Value).toArray below meth c H locs 0 0 Q (F0 m 45 ls []) := by
    intro n
    induction n with
    | zero =>
      intro v2 oM hf
      have hf : none = some (r, oM') := hf
      cases hf
    | succ n ih =>
      intro v2 oM hf H locs ls hw hl
      have hf := (f_X7_inkNow_L45_s  n v2 oM).symm.trans hf
      refine lv_iload_n hx hb dX7_inkNow_45 rfl (lv_at hl 1 rfl) ?_
      refine lv_aload_n hx hb dX7_inkNow_46 rfl (lv_at hl 0 rfl) ?_
      refine w_get hx hb hts hi7 hown hK hw 0 rfl rfl 5 (by decide) q5 rfl (v := .int (oM.1 5)) rfl dX7_inkNow_47 ?_
      refine lv_icmp_ge (tgt := 113) hx hb dX7_inkNow_50 (by decide) (fun c9 => ?_) (fun c9 => ?_)
      · have hf := if_t c9 hf
        refine lv_aload_n hx hb dX7_inkNow_113 rfl (lv_at hl 0 rfl) ?_
        refine w_get hx hb hts hi7 hown hK hw 0 rfl rfl 28 (by decide) q2 rfl (v := .int (oM.1 28)) rfl dX7_inkNow_114 ?_
        obtain ⟨e0_, e1_⟩ := sm2 hf
        exact hret _ _ _ _ _ (by rw [← e1_]; exact hw) e0_ (Or.inl rfl) dX7_inkNow_117
      · have hf := if_f c9 hf
        refine lv_aload_n hx hb dX7_inkNow_53 rfl (lv_at hl 0 rfl) ?_
        refine lv_aload_n hx hb dX7_inkNow_54 rfl (lv_at hl 0 rfl) ?_
        refine w_get hx hb hts hi7 hown hK hw 0 rfl rfl 6 (by decide) q6 rfl (v := .ref (o 2)) rfl dX7_inkNow_55 ?_
        refine lv_iload_n hx hb dX7_inkNow_58 rfl (lv_at hl 1 rfl) ?_
        obtain ⟨x10, g11, hf⟩ := bn1_e hf
        refine w_ald hx hb hK hw 2 rfl g11 dX7_inkNow_59 ?_
        obtain ⟨x12, g13, hf⟩ := bn1_e hf
        have fr := fr_X7_S o cA oM
        refine go_i (run_s (As := [.int x10]) (rest := [.ref (o 0)]) ⟨hx, hb, hml, hown, hts⟩ (k_X7_codeOf l D cA x10 x12 g13 H.size) (va_cwS 1 hts gX7_inkNow_X7_codeOf rfl rfl rfl hd_X7_codeOf ⟨Nat.le_of_ble_eq_true rfl, Nat.le_of_ble_eq_true rfl⟩) fr hw hK hA rfl hl.1 rfl (Nat.le_of_ble_eq_true rfl) dX7_inkNow_60 ⟨Nat.zero_le _, Nat.zero_le _⟩) fr hw hA (fun H locs hw => ?_)
        obtain ⟨oM14, g15, hf⟩ := bn1_e hf
        have fr := fr_X7_X7_oM o cA oM oM14
        refine go_v (run_v (As := [.int x12]) (rest := []) ⟨hx, hb, hml, hown, hts⟩ (k_X7_inkOne l D cA o oM x12 oM14 g15 H.size) (cwV 1 hts gX7_inkNow_X7_inkOne rfl rfl rfl hd_X7_inkOne ⟨Nat.le_of_ble_eq_true rfl, Nat.le_of_ble_eq_true rfl⟩) fr hw hK hA hZo hZ (ci := 7) rfl rfl rfl rfl hl.1 rfl (Nat.le_of_ble_eq_true rfl) dX7_inkNow_63 ⟨Nat.zero_le _, Nat.zero_le _⟩) fr hw hA (fun H locs hw => ?_)
        refine lv_aload_n hx hb dX7_inkNow_66 rfl (lv_at hl 0 rfl) ?_
        refine lv_aload_n hx hb dX7_inkNow_67 rfl (lv_at hl 0 rfl) ?_
        refine w_get hx hb hts hi7 hown hK hw 0 rfl rfl 7 (by decide) q7 rfl (v := .ref (o 3)) rfl dX7_inkNow_68 ?_
        refine lv_iload_n hx hb dX7_inkNow_71 rfl (lv_at hl 1 rfl) ?_
        obtain ⟨x16, g17, hf⟩ := bn1_e hf
        refine w_ald hx hb hK hw 3 rfl g17 dX7_inkNow_72 ?_
        obtain ⟨x18, g19, hf⟩ := bn1_e hf
        have fr := fr_X7_S o cA oM14
        refine go_i (run_s (As := [.int x16]) (rest := [.ref (o 0)]) ⟨hx, hb, hml, hown, hts⟩ (k_X7_codeOf l D cA x16 x18 g19 H.size) (va_cwS 1 hts gX7_inkNow_X7_codeOf rfl rfl rfl hd_X7_codeOf ⟨Nat.le_of_ble_eq_true rfl, Nat.le_of_ble_eq_true rfl⟩) fr hw hK hA rfl hl.1 rfl (Nat.le_of_ble_eq_true rfl) dX7_inkNow_73 ⟨Nat.zero_le _, Nat.zero_le _⟩) fr hw hA (fun H locs hw => ?_)
        obtain ⟨oM20, g21, hf⟩ := bn1_e hf
        have fr := fr_X7_X7_oM o cA oM14 oM20
        refine go_v (run_v (As := [.int x18]) (rest := []) ⟨hx, hb, hml, hown, hts⟩ (k_X7_inkOne l D cA o oM14 x18 oM20 g21 H.size) (cwV 1 hts gX7_inkNow_X7_inkOne rfl rfl rfl hd_X7_inkOne ⟨Nat.le_of_ble_eq_true rfl, Nat.le_of_ble_eq_true rfl⟩) fr hw hK hA hZo hZ (ci := 7) rfl rfl rfl rfl hl.1 rfl (Nat.le_of_ble_eq_true rfl) dX7_inkNow_76 ⟨Nat.zero_le _, Nat.zero_le _⟩) fr hw hA (fun H locs hw => ?_)
        refine lv_aload_n hx hb dX7_inkNow_79 rfl (lv_at hl 0 rfl) ?_
        refine lv_aload_n hx hb dX7_inkNow_80 rfl (lv_at hl 0 rfl) ?_
        refine w_get hx hb hts hi7 hown hK hw 0 rfl rfl 8 (by decide) q8 rfl (v := .ref (o 4)) rfl dX7_inkNow_81 ?_
        refine lv_iload_n hx hb dX7_inkNow_84 rfl (lv_at hl 1 rfl) ?_
        obtain ⟨x22, g23, hf⟩ := bn1_e hf
        refine w_ald hx hb hK hw 4 rfl g23 dX7_inkNow_85 ?_
        refine lv_iconst (v := (-1)) hx hb dX7_inkNow_86 (by decide) ?_
        refine lv_icmp_ne (tgt := 95) hx hb dX7_inkNow_87 (by decide) (fun c24 => ?_) (fun c24 => ?_)
        · have hf := if_f c24 hf
          refine lv_bipush (v := 48) hx hb dX7_inkNow_95 (by decide) ?_
          refine lv_aload_n hx hb dX7_inkNow_97 rfl (lv_at hl 0 rfl) ?_
          refine w_get hx hb hts hi7 hown hK hw 0 rfl rfl 8 (by decide) q8 rfl (v := .ref (o 4)) rfl dX7_inkNow_98 ?_
          refine lv_iload_n hx hb dX7_inkNow_101 rfl (lv_at hl 1 rfl) ?_
          obtain ⟨x25, g26, hf⟩ := bn1_e hf
          refine w_ald hx hb hK hw 4 rfl g26 dX7_inkNow_102 ?_
          refine lv_iadd hx hb dX7_inkNow_103 ?_
          obtain ⟨oM27, g28, hf⟩ := bn1_e hf
          have fr := fr_X7_X7_oM o cA oM20 oM27
          refine go_v (run_v (As := [.int (48 + x25)]) (rest := []) ⟨hx, hb, hml, hown, hts⟩ (k_X7_inkOne l D cA o oM20 (48 + x25) oM27 g28 H.size) (cwV 1 hts gX7_inkNow_X7_inkOne rfl rfl rfl hd_X7_inkOne ⟨Nat.le_of_ble_eq_true rfl, Nat.le_of_ble_eq_true rfl⟩) fr hw hK hA hZo hZ (ci := 7) rfl rfl rfl rfl hl.1 rfl (Nat.le_of_ble_eq_true rfl) dX7_inkNow_104 ⟨Nat.zero_le _, Nat.zero_le _⟩) fr hw hA (fun H locs hw => ?_)
          refine lv_iinc (v := v2 + 1) (lv' := [(2, .int (v2 + 1)), (0, .ref (o 0))]) hx hb dX7_inkNow_107 hl (k := 1) rfl (by rfl) (by decide) rfl (fun ls hl => ?_)
          refine lv_goto (tgt := 45) hx hb dX7_inkNow_110 (by decide) ?_
          exact ih (v2 + 1) oM27 hf H locs ls hw (lv_sub hl [1, 0] rfl)
        · have hf := if_t c24 hf
          refine lv_bipush (v := 45) hx hb dX7_inkNow_90 (by decide) ?_
          refine lv_goto (tgt := 104) hx hb dX7_inkNow_92 (by decide) ?_
          obtain ⟨oM29, g30, hf⟩ := bn1_e hf
          have fr := fr_X7_X7_oM o cA oM20 oM29
          refine go_v (run_v (As := [.int 45]) (rest := []) ⟨hx, hb, hml, hown, hts⟩ (k_X7_inkOne l D cA o oM20 45 oM29 g30 H.size) (cwV 1 hts gX7_inkNow_X7_inkOne rfl rfl rfl hd_X7_inkOne ⟨Nat.le_of_ble_eq_true rfl, Nat.le_of_ble_eq_true rfl⟩) fr hw hK hA hZo hZ (ci := 7) rfl rfl rfl rfl hl.1 rfl (Nat.le_of_ble_eq_true rfl) dX7_inkNow_104 ⟨Nat.zero_le _, Nat.zero_le _⟩) fr hw hA (fun H locs hw => ?_)
          refine lv_iinc (v := v2 + 1) (lv' := [(2, .int (v2 + 1)), (0, .ref (o 0))]) hx hb dX7_inkNow_107 hl (k := 1) rfl (by rfl) (by decide) rfl (fun ls hl => ?_)
          refine lv_goto (tgt := 45) hx hb dX7_inkNow_110 (by decide) ?_
          exact ih (v2 + 1) oM29 hf H locs ls hw (lv_sub hl [1, 0] rfl)
  unfold f_X7_inkNow at hf
  obtain ⟨H, hH⟩ : ∃ H, H = s.heap := ⟨_, rfl⟩
  obtain ⟨locs, hlc⟩ : ∃ locs : List Loc, locs = [] := ⟨_, rfl⟩
  have hw : Wd D A s.heap H locs (wX7 o cA oM) := by rw [hH, hlc]; exact hw
  have goal : W p l e rmX7_inkNow s m ([.ref (o 0), .int a1] : List Value).toArray below meth c H locs 0 0 Q (F0 m 0 ls []) := by
    clear hH hlc
    refine lv_aload_n hx hb dX7_inkNow_0 rfl (lv_at hl 0 rfl) ?_
    refine lv_iload_n hx hb dX7_inkNow_1 rfl (lv_at hl 1 rfl) ?_
    refine w_put (ws' := (wX7 o cA ((sI oM 26 a1)))) hx hb hts hi7 tyX7 tyX7_ok nmX7 hown hK hw 0 rfl rfl 26 (by decide) q0 rfl rfl rfl rfl (Nat.le_of_ble_eq_true rfl) rfl dX7_inkNow_2 (fun H locs hw => ?_)
    refine lv_aload_n hx hb dX7_inkNow_5 rfl (lv_at hl 0 rfl) ?_
    refine lv_iconst (v := 0) hx hb dX7_inkNow_6 (by decide) ?_
    refine w_put (ws' := (wX7 o cA ((sI (sI oM 26 a1) 27 0)))) hx hb hts hi7 tyX7 tyX7_ok nmX7 hown hK hw 0 rfl rfl 27 (by decide) q1 rfl rfl rfl rfl (Nat.le_of_ble_eq_true rfl) rfl dX7_inkNow_7 (fun H locs hw => ?_)
    refine lv_aload_n hx hb dX7_inkNow_10 rfl (lv_at hl 0 rfl) ?_
    refine lv_iconst (v := (-1)) hx hb dX7_inkNow_11 (by decide) ?_
    refine w_put (ws' := (wX7 o cA ((sI (sI (sI oM 26 a1) 27 0) 28 ((-1)))))) hx hb hts hi7 tyX7 tyX7_ok nmX7 hown hK hw 0 rfl rfl 28 (by decide) q2 rfl rfl rfl rfl (Nat.le_of_ble_eq_true rfl) rfl dX7_inkNow_12 (fun H locs hw => ?_)
    refine lv_aload_n hx hb dX7_inkNow_15 rfl (lv_at hl 0 rfl) ?_
    refine lv_aload_n hx hb dX7_inkNow_16 rfl (lv_at hl 0 rfl) ?_
    refine w_get hx hb hts hi7 hown hK hw 0 rfl rfl 2 (by decide) q3 rfl (v := .int (oM.1 2)) rfl dX7_inkNow_17 ?_
    obtain ⟨oM1, g2, hf⟩ := bn1_e hf
    have fr := fr_X7_X7_oM o cA ((sI (sI (sI oM 26 a1) 27 0) 28 ((-1)))) oM1
    refine go_v (run_v (As := [.int (oM.1 2)]) (rest := []) ⟨hx, hb, hml, hown, hts⟩ (k_X7_inkSide l D cA o ((sI (sI (sI oM 26 a1) 27 0) 28 ((-1)))) (oM.1 2) oM1 g2 H.size) (cwV 1 hts gX7_inkNow_X7_inkSide rfl rfl rfl hd_X7_inkSide ⟨Nat.le_of_ble_eq_true rfl, Nat.le_of_ble_eq_true rfl⟩) fr hw hK hA hZo hZ (ci := 7) rfl rfl rfl rfl hl.1 rfl (Nat.le_of_ble_eq_true rfl) dX7_inkNow_20 ⟨Nat.zero_le _, Nat.zero_le _⟩) fr hw hA (fun H locs hw => ?_)
    refine lv_aload_n hx hb dX7_inkNow_23 rfl (lv_at hl 0 rfl) ?_
    refine lv_bipush (v := 120) hx hb dX7_inkNow_24 (by decide) ?_
    obtain ⟨oM3, g4, hf⟩ := bn1_e hf
    have fr := fr_X7_X7_oM o cA oM1 oM3
    refine go_v (run_v (As := [.int 120]) (rest := []) ⟨hx, hb, hml, hown, hts⟩ (k_X7_inkOne l D cA o oM1 120 oM3 g4 H.size) (cwV 1 hts gX7_inkNow_X7_inkOne rfl rfl rfl hd_X7_inkOne ⟨Nat.le_of_ble_eq_true rfl, Nat.le_of_ble_eq_true rfl⟩) fr hw hK hA hZo hZ (ci := 7) rfl rfl rfl rfl hl.1 rfl (Nat.le_of_ble_eq_true rfl) dX7_inkNow_26 ⟨Nat.zero_le _, Nat.zero_le _⟩) fr hw hA (fun H locs hw => ?_)
    refine lv_aload_n hx hb dX7_inkNow_29 rfl (lv_at hl 0 rfl) ?_
    refine lv_aload_n hx hb dX7_inkNow_30 rfl (lv_at hl 0 rfl) ?_
    refine w_get hx hb hts hi7 hown hK hw 0 rfl rfl 3 (by decide) q4 rfl (v := .int (oM3.1 3)) rfl dX7_inkNow_31 ?_
    obtain ⟨oM5, g6, hf⟩ := bn1_e hf
    have fr := fr_X7_X7_oM o cA oM3 oM5
    refine go_v (run_v (As := [.int (oM3.1 3)]) (rest := []) ⟨hx, hb, hml, hown, hts⟩ (k_X7_inkSide l D cA o oM3 (oM3.1 3) oM5 g6 H.size) (cwV 1 hts gX7_inkNow_X7_inkSide rfl rfl rfl hd_X7_inkSide ⟨Nat.le_of_ble_eq_true rfl, Nat.le_of_ble_eq_true rfl⟩) fr hw hK hA hZo hZ (ci := 7) rfl rfl rfl rfl hl.1 rfl (Nat.le_of_ble_eq_true rfl) dX7_inkNow_34 ⟨Nat.zero_le _, Nat.zero_le _⟩) fr hw hA (fun H locs hw => ?_)
    refine lv_aload_n hx hb dX7_inkNow_37 rfl (lv_at hl 0 rfl) ?_
    refine lv_bipush (v := 58) hx hb dX7_inkNow_38 (by decide) ?_
    obtain ⟨oM7, g8, hf⟩ := bn1_e hf
    have fr := fr_X7_X7_oM o cA oM5 oM7
    refine go_v (run_v (As := [.int 58]) (rest := []) ⟨hx, hb, hml, hown, hts⟩ (k_X7_inkOne l D cA o oM5 58 oM7 g8 H.size) (cwV 1 hts gX7_inkNow_X7_inkOne rfl rfl rfl hd_X7_inkOne ⟨Nat.le_of_ble_eq_true rfl, Nat.le_of_ble_eq_true rfl⟩) fr hw hK hA hZo hZ (ci := 7) rfl rfl rfl rfl hl.1 rfl (Nat.le_of_ble_eq_true rfl) dX7_inkNow_40 ⟨Nat.zero_le _, Nat.zero_le _⟩) fr hw hA (fun H locs hw => ?_)
    refine lv_iconst (v := 0) hx hb dX7_inkNow_43 (by decide) ?_
    refine lv_istore_n (lv' := [(2, .int 0), (0, .ref (o 0)), (1, .int a1)]) hx hb dX7_inkNow_44 rfl hl (by decide) rfl (fun ls hl => ?_)
    exact h_L45  _ 0 oM7 hf H locs ls hw (lv_sub hl [1, 0] rfl)
  rw [hH, hlc] at goal
  exact goal
abbrev rmX7_ink : Room := { frames := 3, cells := 0, slots := 0, locals := 64 }
theorem hd_X7_ink : yX7_ink.cls = RX7 ∧ yX7_ink.cls ≠ "java/lang/invoke/MethodHandle" ∧ yX7_ink.cls ≠ "java/lang/invoke/VarHandle" ∧ (parseMethodDescriptor yX7_ink.desc).map (fun d => d.parameters.length) = some 1 := by decide +kernel
set_option maxHeartbeats 4000000 in
set_option maxRecDepth 100000 in
theorem k_X7_ink (l : Launch) (D : va_G) (cA : ClassId) (o : Nat → Nat) (oM : St) (a1 : Int32) (r : Int32) (oM' : St) (hf : f_X7_ink oM a1 = some (r, oM')) : Mi l yX7_ink wsX7_ink rmX7_ink D cA z_0 [.ref (o 0), .int a1] (wX7 o cA oM) r (wX7 o cA oM') := by
  refine Mi.of (cc := cX7_ink) (maxL := 2) (ret := (some .int)) (plainFor_of_name (by decide)) rfl (Nat.le_of_ble_eq_true rfl) (Or.inl rfl) ?_
  intro p e s m below meth c A Q hx hb hml hown hts hK hA hZ hret ls hl hw
  replace hown : s.vm.findClass RX7 = some m.cls := hown
  have hl : lv_has ls 2 [(0, .ref (o 0)), (1, .int a1)] := hl
  have hZo := z_0_ok
  unfold f_X7_ink at hf
  obtain ⟨H, hH⟩ : ∃ H, H = s.heap := ⟨_, rfl⟩
  obtain ⟨locs, hlc⟩ : ∃ locs : List Loc, locs = [] := ⟨_, rfl⟩
  have hw : Wd D A s.heap H locs (wX7 o cA oM) := by rw [hH, hlc]; exact hw
  have goal : W p l e rmX7_ink s m ([.ref (o 0), .int a1] : List Value).toArray below meth c H locs 0 0 Q (F0 m 0 ls []) := by
    clear hH hlc
    refine lv_aload_n hx hb dX7_ink_0 rfl (lv_at hl 0 rfl) ?_
    obtain ⟨x1, g2, hf⟩ := bn1_e hf
    have fr := fr_X7_X7_oM o cA oM oM
    refine go_i (run_v (As := []) (rest := []) ⟨hx, hb, hml, hown, hts⟩ (k_X7_isSheet l D cA o oM x1 g2 H.size) (cwV 0 hts gX7_ink_X7_isSheet rfl rfl rfl hd_X7_isSheet ⟨Nat.le_of_ble_eq_true rfl, Nat.le_of_ble_eq_true rfl⟩) fr hw hK hA hZo hZ (ci := 7) rfl rfl rfl rfl hl.1 rfl (Nat.le_of_ble_eq_true rfl) dX7_ink_1 ⟨Nat.zero_le _, Nat.zero_le _⟩) fr hw hA (fun H locs hw => ?_)
    refine lv_if_ne (tgt := 10) hx hb dX7_ink_4 (by decide) (fun c3 => ?_) (fun c3 => ?_)
    · have hf := if_f c3 hf
      refine lv_iload_n hx hb dX7_ink_10 rfl (lv_at hl 1 rfl) ?_
      refine lv_if_ge (tgt := 19) hx hb dX7_ink_11 (by decide) (fun c4 => ?_) (fun c4 => ?_)
      · have hf := if_t c4 hf
        refine lv_aload_n hx hb dX7_ink_19 rfl (lv_at hl 0 rfl) ?_
        refine lv_iload_n hx hb dX7_ink_20 rfl (lv_at hl 1 rfl) ?_
        obtain ⟨x5, oM6, g7, hf⟩ := bn2_e hf
        have fr := fr_X7_X7_oM o cA oM oM6
        refine go_i (run_v (As := [.int a1]) (rest := []) ⟨hx, hb, hml, hown, hts⟩ (k_X7_inkNow l D cA o oM a1 x5 oM6 g7 H.size) (cwV 1 hts gX7_ink_X7_inkNow rfl rfl rfl hd_X7_inkNow ⟨Nat.le_of_ble_eq_true rfl, Nat.le_of_ble_eq_true rfl⟩) fr hw hK hA hZo hZ (ci := 7) rfl rfl rfl rfl hl.1 rfl (Nat.le_of_ble_eq_true rfl) dX7_ink_21 ⟨Nat.zero_le _, Nat.zero_le _⟩) fr hw hA (fun H locs hw => ?_)
        obtain ⟨e0_, e1_⟩ := sm2 hf
        exact hret _ _ _ _ _ (by rw [← e1_]; exact hw) e0_ (Or.inl rfl) dX7_ink_24
      · have hf := if_f c4 hf
        refine lv_bipush (v := (-101)) hx hb dX7_ink_14 (by decide) ?_
        refine lv_goto (tgt := 24) hx hb dX7_ink_16 (by decide) ?_
        obtain ⟨e0_, e1_⟩ := sm2 hf
        exact hret _ _ _ _ _ (by rw [← e1_]; exact hw) e0_ (Or.inl rfl) dX7_ink_24
    · have hf := if_t c3 hf
      refine lv_bipush (v := (-103)) hx hb dX7_ink_7 (by decide) ?_
      obtain ⟨e0_, e1_⟩ := sm2 hf
      exact hret _ _ _ _ _ (by rw [← e1_]; exact hw) e0_ (Or.inl rfl) dX7_ink_9
  rw [hH, hlc] at goal
  exact goal
abbrev rmX7_isOn : Room := { frames := 1, cells := 0, slots := 0, locals := 22 }
theorem hd_X7_isOn : yX7_isOn.cls = RX7 ∧ yX7_isOn.cls ≠ "java/lang/invoke/MethodHandle" ∧ yX7_isOn.cls ≠ "java/lang/invoke/VarHandle" ∧ (parseMethodDescriptor yX7_isOn.desc).map (fun d => d.parameters.length) = some 2 := by decide +kernel
set_option maxHeartbeats 4000000 in
set_option maxRecDepth 100000 in
theorem k_X7_isOn (l : Launch) (D : va_G) (cA : ClassId) (o : Nat → Nat) (oM : St) (a1 : Int32) (a2 : Int32) (r : Int32) (hf : f_X7_isOn oM a1 a2 = some (r)) : Mi l yX7_isOn wsX7_isOn rmX7_isOn D cA z_0 [.ref (o 0), .int a1, .int a2] (wX7 o cA oM) r (wX7 o cA oM) := by
  refine Mi.of (cc := cX7_isOn) (maxL := 3) (ret := (some .boolean)) (plainFor_of_name (by decide)) rfl (Nat.le_of_ble_eq_true rfl) (Or.inr rfl) ?_
  intro p e s m below meth c A Q hx hb hml hown hts hK hA hZ hret ls hl hw
  replace hown : s.vm.findClass RX7 = some m.cls := hown
  have hl : lv_has ls 3 [(0, .ref (o 0)), (1, .int a1), (2, .int a2)] := hl
  have hZo := z_0_ok
  have hi7 : ∀ w ∈ wsX70, w ∈ wsX7_isOn := fun w h => List.mem_cons_of_mem _ (List.mem_append_right _ h)
  have q0 := hts (.fieldLink RX7 115 "ArcRingsModel" "wide" "I") (by decide +kernel)
  have q1 := hts (.fieldLink RX7 118 "ArcRingsModel" "high" "I") (by decide +kernel)
  unfold f_X7_isOn at hf
  obtain ⟨H, hH⟩ : ∃ H, H = s.heap := ⟨_, rfl⟩
  obtain ⟨locs, hlc⟩ : ∃ locs : List Loc, locs = [] := ⟨_, rfl⟩
  have hw : Wd D A s.heap H locs (wX7 o cA oM) := by rw [hH, hlc]; exact hw
  have goal : W p l e rmX7_isOn s m ([.ref (o 0), .int a1, .int a2] : List Value).toArray below meth c H locs 0 0 Q (F0 m 0 ls []) := by
    clear hH hlc
    refine lv_iload_n hx hb dX7_isOn_0 rfl (lv_at hl 1 rfl) ?_
    refine lv_iconst (v := 0) hx hb dX7_isOn_1 (by decide) ?_
    refine lv_aload_n hx hb dX7_isOn_2 rfl (lv_at hl 0 rfl) ?_
    refine w_get hx hb hts hi7 hown hK hw 0 rfl rfl 2 (by decide) q0 rfl (v := .int (oM.1 2)) rfl dX7_isOn_3 ?_
    refine lv_iconst (v := 1) hx hb dX7_isOn_6 (by decide) ?_
    refine lv_isub hx hb dX7_isOn_7 ?_
    obtain ⟨x1, g2, hf⟩ := bn1_e hf
    have fr := fr_X7_S o cA oM
    refine go_i (run_s (As := [.int a1, .int 0, .int ((oM.1 2) - 1)]) (rest := []) ⟨hx, hb, hml, hown, hts⟩ (k_X7_within l D cA a1 0 ((oM.1 2) - 1) x1 g2 H.size) (va_cwS 3 hts gX7_isOn_X7_within rfl rfl rfl hd_X7_within ⟨Nat.le_of_ble_eq_true rfl, Nat.le_of_ble_eq_true rfl⟩) fr hw hK hA rfl hl.1 rfl (Nat.le_of_ble_eq_true rfl) dX7_isOn_8 ⟨Nat.zero_le _, Nat.zero_le _⟩) fr hw hA (fun H locs hw => ?_)
    refine lv_if_eq (tgt := 32) hx hb dX7_isOn_11 (by decide) (fun c3 => ?_) (fun c3 => ?_)
    · have hf := if_t c3 hf
      refine lv_iconst (v := 0) hx hb dX7_isOn_32 (by decide) ?_
      have e0_ := sm1 hf
      exact hret _ _ _ _ _ hw e0_ (Or.inr (Or.inl rfl)) dX7_isOn_33
    · have hf := if_f c3 hf
      refine lv_iload_n hx hb dX7_isOn_14 rfl (lv_at hl 2 rfl) ?_
      refine lv_iconst (v := 0) hx hb dX7_isOn_15 (by decide) ?_
      refine lv_aload_n hx hb dX7_isOn_16 rfl (lv_at hl 0 rfl) ?_
      refine w_get hx hb hts hi7 hown hK hw 0 rfl rfl 3 (by decide) q1 rfl (v := .int (oM.1 3)) rfl dX7_isOn_17 ?_
      refine lv_iconst (v := 1) hx hb dX7_isOn_20 (by decide) ?_
      refine lv_isub hx hb dX7_isOn_21 ?_
      obtain ⟨x4, g5, hf⟩ := bn1_e hf
      have fr := fr_X7_S o cA oM
      refine go_i (run_s (As := [.int a2, .int 0, .int ((oM.1 3) - 1)]) (rest := []) ⟨hx, hb, hml, hown, hts⟩ (k_X7_within l D cA a2 0 ((oM.1 3) - 1) x4 g5 H.size) (va_cwS 3 hts gX7_isOn_X7_within rfl rfl rfl hd_X7_within ⟨Nat.le_of_ble_eq_true rfl, Nat.le_of_ble_eq_true rfl⟩) fr hw hK hA rfl hl.1 rfl (Nat.le_of_ble_eq_true rfl) dX7_isOn_22 ⟨Nat.zero_le _, Nat.zero_le _⟩) fr hw hA (fun H locs hw => ?_)
      refine lv_if_eq (tgt := 32) hx hb dX7_isOn_25 (by decide) (fun c6 => ?_) (fun c6 => ?_)
      · have hf := if_t c6 hf
        refine lv_iconst (v := 0) hx hb dX7_isOn_32 (by decide) ?_
        have e0_ := sm1 hf
        exact hret _ _ _ _ _ hw e0_ (Or.inr (Or.inl rfl)) dX7_isOn_33
      · have hf := if_f c6 hf
        refine lv_iconst (v := 1) hx hb dX7_isOn_28 (by decide) ?_
        refine lv_goto (tgt := 33) hx hb dX7_isOn_29 (by decide) ?_
        have e0_ := sm1 hf
        exact hret _ _ _ _ _ hw e0_ (Or.inr (Or.inr rfl)) dX7_isOn_33
  rw [hH, hlc] at goal
  exact goal
abbrev rmX7_isTaken : Room := { frames := 0, cells := 0, slots := 0, locals := 0 }
theorem hd_X7_isTaken : yX7_isTaken.cls = RX7 ∧ yX7_isTaken.cls ≠ "java/lang/invoke/MethodHandle" ∧ yX7_isTaken.cls ≠ "java/lang/invoke/VarHandle" ∧ (parseMethodDescriptor yX7_isTaken.desc).map (fun d => d.parameters.length) = some 2 := by decide +kernel
set_option maxHeartbeats 4000000 in
set_option maxRecDepth 100000 in
theorem k_X7_isTaken (l : Launch) (D : va_G) (cA : ClassId) (o : Nat → Nat) (oM : St) (a1 : Int32) (a2 : Int32) (r : Int32) (hf : f_X7_isTaken oM a1 a2 = some (r)) : Mi l yX7_isTaken wsX7_isTaken rmX7_isTaken D cA z_0 [.ref (o 0), .int a1, .int a2] (wX7 o cA oM) r (wX7 o cA oM) := by
  refine Mi.of (cc := cX7_isTaken) (maxL := 5) (ret := (some .boolean)) (plainFor_of_name (by decide)) rfl (Nat.le_of_ble_eq_true rfl) (Or.inr rfl) ?_
  intro p e s m below meth c A Q hx hb hml hown hts hK hA hZ hret ls hl hw
  replace hown : s.vm.findClass RX7 = some m.cls := hown
  have hl : lv_has ls 5 [(0, .ref (o 0)), (1, .int a1), (2, .int a2)] := hl
  have hZo := z_0_ok
  have hi7 : ∀ w ∈ wsX70, w ∈ wsX7_isTaken := fun w h => List.mem_cons_of_mem _ (List.mem_append_right _ h)
  have q0 := hts (.fieldLink RX7 121 "ArcRingsModel" "dots" "I") (by decide +kernel)
  have q1 := hts (.fieldLink RX7 13 "ArcRingsModel" "dotX" "[I") (by decide +kernel)
  have q2 := hts (.fieldLink RX7 16 "ArcRingsModel" "dotY" "[I") (by decide +kernel)
  have h_L5 : ∀ (v1 : Int32) (v2 : Int32), ∀ (n : Nat) (v3 : Int32) (v4 : Int32), f_X7_isTaken_L5 oM v1 v2 n v3 v4 = some (r) → ∀ (H : Heap) (locs : List Loc) (ls : Array Slot), Wd D A s.heap H locs (wX7 o cA oM) → lv_has ls 5 [(0, .ref (o 0)), (1, .int v1), (2, .int v2), (3, .int v3), (4, .int v4)] → W p l e rmX7_isTaken s m ([.ref (o 0), .int a1, .int a2] : List Value).toArray below meth c H locs 0 0 Q (F0 m 5 ls []) := by
    intro v1 v2 n
    induction n with
    | zero =>
      intro v3 v4 hf
      have hf : none = some (r) := hf
      cases hf
    | succ n ih =>
      intro v3 v4 hf H locs ls hw hl
      have hf := (f_X7_isTaken_L5_s oM v1 v2 n v3 v4).symm.trans hf
      refine lv_iload hx hb dX7_isTaken_5 (lv_at hl 4 rfl) ?_
      refine lv_aload_n hx hb dX7_isTaken_7 rfl (lv_at hl 0 rfl) ?_
      refine w_get hx hb hts hi7 hown hK hw 0 rfl rfl 5 (by decide) q0 rfl (v := .int (oM.1 5)) rfl dX7_isTaken_8 ?_
      refine lv_icmp_ge (tgt := 52) hx hb dX7_isTaken_11 (by decide) (fun c1 => ?_) (fun c1 => ?_)
      · have hf := if_t c1 hf
        refine lv_iload_n hx hb dX7_isTaken_52 rfl (lv_at hl 3 rfl) ?_
        obtain ⟨bz, hf⟩ := if_n hf
        have e0_ := sm1 hf
        exact hret _ _ _ _ _ hw e0_ (Or.inr bz) dX7_isTaken_53
      · have hf := if_f c1 hf
        refine lv_iload_n hx hb dX7_isTaken_14 rfl (lv_at hl 3 rfl) ?_
        refine lv_if_ne (tgt := 40) hx hb dX7_isTaken_15 (by decide) (fun c2 => ?_) (fun c2 => ?_)
        · have hf := if_f c2 hf
          refine lv_iconst (v := 1) hx hb dX7_isTaken_40 (by decide) ?_
          refine lv_goto (tgt := 45) hx hb dX7_isTaken_41 (by decide) ?_
          refine lv_istore_n (lv' := [(3, .int 1), (0, .ref (o 0)), (1, .int v1), (2, .int v2), (4, .int v4)]) hx hb dX7_isTaken_45 rfl hl (by decide) rfl (fun ls hl => ?_)
          refine lv_iinc (v := v4 + 1) (lv' := [(4, .int (v4 + 1)), (3, .int 1), (0, .ref (o 0)), (1, .int v1), (2, .int v2)]) hx hb dX7_isTaken_46 hl (k := 4) rfl (by rfl) (by decide) rfl (fun ls hl => ?_)
          refine lv_goto (tgt := 5) hx hb dX7_isTaken_49 (by decide) ?_
          exact ih 1 (v4 + 1) hf H locs ls hw (lv_sub hl [2, 3, 4, 1, 0] rfl)
        · have hf := if_t c2 hf
          refine lv_aload_n hx hb dX7_isTaken_18 rfl (lv_at hl 0 rfl) ?_
          refine w_get hx hb hts hi7 hown hK hw 0 rfl rfl 6 (by decide) q1 rfl (v := .ref (o 2)) rfl dX7_isTaken_19 ?_
          refine lv_iload hx hb dX7_isTaken_22 (lv_at hl 4 rfl) ?_
          obtain ⟨x3, g4, hf⟩ := bn1_e hf
          refine w_ald hx hb hK hw 2 rfl g4 dX7_isTaken_24 ?_
          refine lv_iload_n hx hb dX7_isTaken_25 rfl (lv_at hl 1 rfl) ?_
          refine lv_icmp_ne (tgt := 44) hx hb dX7_isTaken_26 (by decide) (fun c5 => ?_) (fun c5 => ?_)
          · have hf := if_f c5 hf
            refine lv_iconst (v := 0) hx hb dX7_isTaken_44 (by decide) ?_
            refine lv_istore_n (lv' := [(3, .int 0), (0, .ref (o 0)), (1, .int v1), (2, .int v2), (4, .int v4)]) hx hb dX7_isTaken_45 rfl hl (by decide) rfl (fun ls hl => ?_)
            refine lv_iinc (v := v4 + 1) (lv' := [(4, .int (v4 + 1)), (3, .int 0), (0, .ref (o 0)), (1, .int v1), (2, .int v2)]) hx hb dX7_isTaken_46 hl (k := 4) rfl (by rfl) (by decide) rfl (fun ls hl => ?_)
            refine lv_goto (tgt := 5) hx hb dX7_isTaken_49 (by decide) ?_
            exact ih 0 (v4 + 1) hf H locs ls hw (lv_sub hl [2, 3, 4, 1, 0] rfl)
          · have hf := if_t c5 hf
            refine lv_aload_n hx hb dX7_isTaken_29 rfl (lv_at hl 0 rfl) ?_
            refine w_get hx hb hts hi7 hown hK hw 0 rfl rfl 7 (by decide) q2 rfl (v := .ref (o 3)) rfl dX7_isTaken_30 ?_
            refine lv_iload hx hb dX7_isTaken_33 (lv_at hl 4 rfl) ?_
            obtain ⟨x6, g7, hf⟩ := bn1_e hf
            refine w_ald hx hb hK hw 3 rfl g7 dX7_isTaken_35 ?_
            refine lv_iload_n hx hb dX7_isTaken_36 rfl (lv_at hl 2 rfl) ?_
            refine lv_icmp_ne (tgt := 44) hx hb dX7_isTaken_37 (by decide) (fun c8 => ?_) (fun c8 => ?_)
            · have hf := if_f c8 hf
              refine lv_iconst (v := 0) hx hb dX7_isTaken_44 (by decide) ?_
              refine lv_istore_n (lv' := [(3, .int 0), (0, .ref (o 0)), (1, .int v1), (2, .int v2), (4, .int v4)]) hx hb dX7_isTaken_45 rfl hl (by decide) rfl (fun ls hl => ?_)
              refine lv_iinc (v := v4 + 1) (lv' := [(4, .int (v4 + 1)), (3, .int 0), (0, .ref (o 0)), (1, .int v1), (2, .int v2)]) hx hb dX7_isTaken_46 hl (k := 4) rfl (by rfl) (by decide) rfl (fun ls hl => ?_)
              refine lv_goto (tgt := 5) hx hb dX7_isTaken_49 (by decide) ?_
              exact ih 0 (v4 + 1) hf H locs ls hw (lv_sub hl [2, 3, 4, 1, 0] rfl)
            · have hf := if_t c8 hf
              refine lv_iconst (v := 1) hx hb dX7_isTaken_40 (by decide) ?_
              refine lv_goto (tgt := 45) hx hb dX7_isTaken_41 (by decide) ?_
              refine lv_istore_n (lv' := [(3, .int 1), (0, .ref (o 0)), (1, .int v1), (2, .int v2), (4, .int v4)]) hx hb dX7_isTaken_45 rfl hl (by decide) rfl (fun ls hl => ?_)
              refine lv_iinc (v := v4 + 1) (lv' := [(4, .int (v4 + 1)), (3, .int 1), (0, .ref (o 0)), (1, .int v1), (2, .int v2)]) hx hb dX7_isTaken_46 hl (k := 4) rfl (by rfl) (by decide) rfl (fun ls hl => ?_)
              refine lv_goto (tgt := 5) hx hb dX7_isTaken_49 (by decide) ?_
              exact ih 1 (v4 + 1) hf H locs ls hw (lv_sub hl [2, 3, 4, 1, 0] rfl)
  unfold f_X7_isTaken at hf
  obtain ⟨H, hH⟩ : ∃ H, H = s.heap := ⟨_, rfl⟩
  obtain ⟨locs, hlc⟩ : ∃ locs : List Loc, locs = [] := ⟨_, rfl⟩
  have hw : Wd D A s.heap H locs (wX7 o cA oM) := by rw [hH, hlc]; exact hw
  have goal : W p l e rmX7_isTaken s m ([.ref (o 0), .int a1, .int a2] : List Value).toArray below meth c H locs 0 0 Q (F0 m 0 ls []) := by
    clear hH hlc
    refine lv_iconst (v := 0) hx hb dX7_isTaken_0 (by decide) ?_
    refine lv_istore_n (lv' := [(3, .int 0), (0, .ref (o 0)), (1, .int a1), (2, .int a2)]) hx hb dX7_isTaken_1 rfl hl (by decide) rfl (fun ls hl => ?_)
    refine lv_iconst (v := 0) hx hb dX7_isTaken_2 (by decide) ?_
    refine lv_istore (lv' := [(4, .int 0), (3, .int 0), (0, .ref (o 0)), (1, .int a1), (2, .int a2)]) hx hb dX7_isTaken_3 hl (by decide) rfl (fun ls hl => ?_)
    exact h_L5 a1 a2 _ 0 0 hf H locs ls hw (lv_sub hl [2, 3, 4, 1, 0] rfl)
  rw [hH, hlc] at goal
  exact goal
abbrev rmX7_isDot : Room := { frames := 1, cells := 0, slots := 0, locals := 22 }
theorem hd_X7_isDot : yX7_isDot.cls = RX7 ∧ yX7_isDot.cls ≠ "java/lang/invoke/MethodHandle" ∧ yX7_isDot.cls ≠ "java/lang/invoke/VarHandle" ∧ (parseMethodDescriptor yX7_isDot.desc).map (fun d => d.parameters.length) = some 1 := by decide +kernel
set_option maxHeartbeats 4000000 in
set_option maxRecDepth 100000 in
theorem k_X7_isDot (l : Launch) (D : va_G) (cA : ClassId) (o : Nat → Nat) (oM : St) (a1 : Int32) (r : Int32) (hf : f_X7_isDot oM a1 = some (r)) : Mi l yX7_isDot wsX7_isDot rmX7_isDot D cA z_0 [.ref (o 0), .int a1] (wX7 o cA oM) r (wX7 o cA oM) := by
  refine Mi.of (cc := cX7_isDot) (maxL := 2) (ret := (some .boolean)) (plainFor_of_name (by decide)) rfl (Nat.le_of_ble_eq_true rfl) (Or.inr rfl) ?_
  intro p e s m below meth c A Q hx hb hml hown hts hK hA hZ hret ls hl hw
  replace hown : s.vm.findClass RX7 = some m.cls := hown
  have hl : lv_has ls 2 [(0, .ref (o 0)), (1, .int a1)] := hl
  have hZo := z_0_ok
  have hi7 : ∀ w ∈ wsX70, w ∈ wsX7_isDot := fun w h => List.mem_cons_of_mem _ (List.mem_append_right _ h)
  have q0 := hts (.fieldLink RX7 121 "ArcRingsModel" "dots" "I") (by decide +kernel)
  unfold f_X7_isDot at hf
  obtain ⟨H, hH⟩ : ∃ H, H = s.heap := ⟨_, rfl⟩
  obtain ⟨locs, hlc⟩ : ∃ locs : List Loc, locs = [] := ⟨_, rfl⟩
  have hw : Wd D A s.heap H locs (wX7 o cA oM) := by rw [hH, hlc]; exact hw
  have goal : W p l e rmX7_isDot s m ([.ref (o 0), .int a1] : List Value).toArray below meth c H locs 0 0 Q (F0 m 0 ls []) := by
    clear hH hlc
    refine lv_aload_n hx hb dX7_isDot_0 rfl (lv_at hl 0 rfl) ?_
    obtain ⟨x1, g2, hf⟩ := bn1_e hf
    have fr := fr_X7_X7_oM o cA oM oM
    refine go_i (run_v (As := []) (rest := []) ⟨hx, hb, hml, hown, hts⟩ (k_X7_isSheet l D cA o oM x1 g2 H.size) (cwV 0 hts gX7_isDot_X7_isSheet rfl rfl rfl hd_X7_isSheet ⟨Nat.le_of_ble_eq_true rfl, Nat.le_of_ble_eq_true rfl⟩) fr hw hK hA hZo hZ (ci := 7) rfl rfl rfl rfl hl.1 rfl (Nat.le_of_ble_eq_true rfl) dX7_isDot_1 ⟨Nat.zero_le _, Nat.zero_le _⟩) fr hw hA (fun H locs hw => ?_)
    refine lv_if_eq (tgt := 25) hx hb dX7_isDot_4 (by decide) (fun c3 => ?_) (fun c3 => ?_)
    · have hf := if_t c3 hf
      refine lv_iconst (v := 0) hx hb dX7_isDot_25 (by decide) ?_
      have e0_ := sm1 hf
      exact hret _ _ _ _ _ hw e0_ (Or.inr (Or.inl rfl)) dX7_isDot_26
    · have hf := if_f c3 hf
      refine lv_iload_n hx hb dX7_isDot_7 rfl (lv_at hl 1 rfl) ?_
      refine lv_iconst (v := 0) hx hb dX7_isDot_8 (by decide) ?_
      refine lv_aload_n hx hb dX7_isDot_9 rfl (lv_at hl 0 rfl) ?_
      refine w_get hx hb hts hi7 hown hK hw 0 rfl rfl 5 (by decide) q0 rfl (v := .int (oM.1 5)) rfl dX7_isDot_10 ?_
      refine lv_iconst (v := 1) hx hb dX7_isDot_13 (by decide) ?_
      refine lv_isub hx hb dX7_isDot_14 ?_
      obtain ⟨x4, g5, hf⟩ := bn1_e hf
      have fr := fr_X7_S o cA oM
      refine go_i (run_s (As := [.int a1, .int 0, .int ((oM.1 5) - 1)]) (rest := []) ⟨hx, hb, hml, hown, hts⟩ (k_X7_within l D cA a1 0 ((oM.1 5) - 1) x4 g5 H.size) (va_cwS 3 hts gX7_isDot_X7_within rfl rfl rfl hd_X7_within ⟨Nat.le_of_ble_eq_true rfl, Nat.le_of_ble_eq_true rfl⟩) fr hw hK hA rfl hl.1 rfl (Nat.le_of_ble_eq_true rfl) dX7_isDot_15 ⟨Nat.zero_le _, Nat.zero_le _⟩) fr hw hA (fun H locs hw => ?_)
      refine lv_if_eq (tgt := 25) hx hb dX7_isDot_18 (by decide) (fun c6 => ?_) (fun c6 => ?_)
      · have hf := if_t c6 hf
        refine lv_iconst (v := 0) hx hb dX7_isDot_25 (by decide) ?_
        have e0_ := sm1 hf
        exact hret _ _ _ _ _ hw e0_ (Or.inr (Or.inl rfl)) dX7_isDot_26
      · have hf := if_f c6 hf
        refine lv_iconst (v := 1) hx hb dX7_isDot_21 (by decide) ?_
        refine lv_goto (tgt := 26) hx hb dX7_isDot_22 (by decide) ?_
        have e0_ := sm1 hf
        exact hret _ _ _ _ _ hw e0_ (Or.inr (Or.inr rfl)) dX7_isDot_26
  rw [hH, hlc] at goal
  exact goal
abbrev rmX7_comes : Room := { frames := 0, cells := 0, slots := 0, locals := 0 }
theorem hd_X7_comes : yX7_comes.cls = RX7 ∧ yX7_comes.cls ≠ "java/lang/invoke/MethodHandle" ∧ yX7_comes.cls ≠ "java/lang/invoke/VarHandle" ∧ (parseMethodDescriptor yX7_comes.desc).map (fun d => d.parameters.length) = some 3 := by decide +kernel
set_option maxHeartbeats 4000000 in
set_option maxRecDepth 100000 in
theorem k_X7_comes (l : Launch) (D : va_G) (cA : ClassId) (o : Nat → Nat) (oM : St) (a1 : Int32) (a2 : Int32) (a3 : Int32) (oM' : St) (hf : f_X7_comes oM a1 a2 a3 = some (oM')) : Mv l yX7_comes wsX7_comes rmX7_comes D cA z_0 [.ref (o 0), .int a1, .int a2, .int a3] (wX7 o cA oM) (wX7 o cA oM') := by
  refine Mv.of (cc := cX7_comes) (maxL := 4) (by decide) rfl (Nat.le_of_ble_eq_true rfl) ?_
  intro p e s m below meth c A Q hx hb hml hown hts hK hA hZ hret ls hl hw
  replace hown : s.vm.findClass RX7 = some m.cls := hown
  have hl : lv_has ls 4 [(0, .ref (o 0)), (1, .int a1), (2, .int a2), (3, .int a3)] := hl
  have hZo := z_0_ok
  have hi7 : ∀ w ∈ wsX70, w ∈ wsX7_comes := fun w h => List.mem_cons_of_mem _ (List.mem_append_right _ h)
  have q0 := hts (.fieldLink RX7 13 "ArcRingsModel" "dotX" "[I") (by decide +kernel)
  have q1 := hts (.fieldLink RX7 121 "ArcRingsModel" "dots" "I") (by decide +kernel)
  have q2 := hts (.fieldLink RX7 16 "ArcRingsModel" "dotY" "[I") (by decide +kernel)
  have q3 := hts (.fieldLink RX7 19 "ArcRingsModel" "turnOf" "[I") (by decide +kernel)
  have q4 := hts (.fieldLink RX7 124 "ArcRingsModel" "isHunted" "Z") (by decide +kernel)
  unfold f_X7_comes at hf
  obtain ⟨H, hH⟩ : ∃ H, H = s.heap := ⟨_, rfl⟩
  obtain ⟨locs, hlc⟩ : ∃ locs : List Loc, locs = [] := ⟨_, rfl⟩
  have hw : Wd D A s.heap H locs (wX7 o cA oM) := by rw [hH, hlc]; exact hw
  have goal : W p l e rmX7_comes s m ([.ref (o 0), .int a1, .int a2, .int a3] : List Value).toArray below meth c H locs 0 0 Q (F0 m 0 ls []) := by
    clear hH hlc
    refine lv_aload_n hx hb dX7_comes_0 rfl (lv_at hl 0 rfl) ?_
    refine w_get hx hb hts hi7 hown hK hw 0 rfl rfl 6 (by decide) q0 rfl (v := .ref (o 2)) rfl dX7_comes_1 ?_
    refine lv_aload_n hx hb dX7_comes_4 rfl (lv_at hl 0 rfl) ?_
    refine w_get hx hb hts hi7 hown hK hw 0 rfl rfl 5 (by decide) q1 rfl (v := .int (oM.1 5)) rfl dX7_comes_5 ?_
    refine lv_iload_n hx hb dX7_comes_8 rfl (lv_at hl 1 rfl) ?_
    obtain ⟨oM2, g1, hf⟩ := bn1_e hf
    refine w_aws hx hb hK hw 2 rfl g1 (fun z => (wX7 o cA z)) (fun _ => rfl) dX7_comes_9 (fun H locs hw => ?_)
    refine lv_aload_n hx hb dX7_comes_10 rfl (lv_at hl 0 rfl) ?_
    refine w_get hx hb hts hi7 hown hK hw 0 rfl rfl 7 (by decide) q2 rfl (v := .ref (o 3)) rfl dX7_comes_11 ?_
    refine lv_aload_n hx hb dX7_comes_14 rfl (lv_at hl 0 rfl) ?_
    refine w_get hx hb hts hi7 hown hK hw 0 rfl rfl 5 (by decide) q1 rfl (v := .int (oM2.1 5)) rfl dX7_comes_15 ?_
    refine lv_iload_n hx hb dX7_comes_18 rfl (lv_at hl 2 rfl) ?_
    obtain ⟨oM4, g3, hf⟩ := bn1_e hf
    refine w_aws hx hb hK hw 3 rfl g3 (fun z => (wX7 o cA z)) (fun _ => rfl) dX7_comes_19 (fun H locs hw => ?_)
    refine lv_aload_n hx hb dX7_comes_20 rfl (lv_at hl 0 rfl) ?_
    refine w_get hx hb hts hi7 hown hK hw 0 rfl rfl 8 (by decide) q3 rfl (v := .ref (o 4)) rfl dX7_comes_21 ?_
    refine lv_aload_n hx hb dX7_comes_24 rfl (lv_at hl 0 rfl) ?_
    refine w_get hx hb hts hi7 hown hK hw 0 rfl rfl 5 (by decide) q1 rfl (v := .int (oM4.1 5)) rfl dX7_comes_25 ?_
    refine lv_iload_n hx hb dX7_comes_28 rfl (lv_at hl 3 rfl) ?_
    obtain ⟨oM6, g5, hf⟩ := bn1_e hf
    refine w_aws hx hb hK hw 4 rfl g5 (fun z => (wX7 o cA z)) (fun _ => rfl) dX7_comes_29 (fun H locs hw => ?_)
    refine lv_aload_n hx hb dX7_comes_30 rfl (lv_at hl 0 rfl) ?_
    refine lv_dup hx hb dX7_comes_31 rfl ?_
    refine w_get hx hb hts hi7 hown hK hw 0 rfl rfl 5 (by decide) q1 rfl (v := .int (oM6.1 5)) rfl dX7_comes_32 ?_
    refine lv_iconst (v := 1) hx hb dX7_comes_35 (by decide) ?_
    refine lv_iadd hx hb dX7_comes_36 ?_
    refine w_put (ws' := (wX7 o cA ((sI oM6 5 ((oM6.1 5) + 1))))) hx hb hts hi7 tyX7 tyX7_ok nmX7 hown hK hw 0 rfl rfl 5 (by decide) q1 rfl rfl rfl rfl (Nat.le_of_ble_eq_true rfl) rfl dX7_comes_37 (fun H locs hw => ?_)
    refine lv_aload_n hx hb dX7_comes_40 rfl (lv_at hl 0 rfl) ?_
    refine lv_iconst (v := 0) hx hb dX7_comes_41 (by decide) ?_
    refine w_put (ws' := (wX7 o cA ((sI (sI oM6 5 ((oM6.1 5) + 1)) 10 0)))) hx hb hts hi7 tyX7 tyX7_ok nmX7 hown hK hw 0 rfl rfl 10 (by decide) q4 rfl rfl (by decide) (by decide) (Nat.le_of_ble_eq_true rfl) rfl dX7_comes_42 (fun H locs hw => ?_)
    have e0_ := sm1 hf
    exact hret _ _ _ _ (by rw [← e0_]; exact hw) dX7_comes_45
  rw [hH, hlc] at goal
  exact goal
abbrev rmX7_dot : Room := { frames := 2, cells := 0, slots := 0, locals := 44 }
theorem hd_X7_dot : yX7_dot.cls = RX7 ∧ yX7_dot.cls ≠ "java/lang/invoke/MethodHandle" ∧ yX7_dot.cls ≠ "java/lang/invoke/VarHandle" ∧ (parseMethodDescriptor yX7_dot.desc).map (fun d => d.parameters.length) = some 3 := by decide +kernel
set_option maxHeartbeats 4000000 in
set_option maxRecDepth 100000 in
theorem k_X7_dot (l : Launch) (D : va_G) (cA : ClassId) (o : Nat → Nat) (oM : St) (a1 : Int32) (a2 : Int32) (a3 : Int32) (r : Int32) (oM' : St) (hf : f_X7_dot oM a1 a2 a3 = some (r, oM')) : Mi l yX7_dot wsX7_dot rmX7_dot D cA z_0 [.ref (o 0), .int a1, .int a2, .int a3] (wX7 o cA oM) r (wX7 o cA oM') := by
  refine Mi.of (cc := cX7_dot) (maxL := 4) (ret := (some .int)) (plainFor_of_name (by decide)) rfl (Nat.le_of_ble_eq_true rfl) (Or.inl rfl) ?_
  intro p e s m below meth c A Q hx hb hml hown hts hK hA hZ hret ls hl hw
  replace hown : s.vm.findClass RX7 = some m.cls := hown
  have hl : lv_has ls 4 [(0, .ref (o 0)), (1, .int a1), (2, .int a2), (3, .int a3)] := hl
  have hZo := z_0_ok
  have hi7 : ∀ w ∈ wsX70, w ∈ wsX7_dot := fun w h => List.mem_cons_of_mem _ (List.mem_append_right _ h)
  have q0 := hts (.fieldLink RX7 121 "ArcRingsModel" "dots" "I") (by decide +kernel)
  unfold f_X7_dot at hf
  obtain ⟨H, hH⟩ : ∃ H, H = s.heap := ⟨_, rfl⟩
  obtain ⟨locs, hlc⟩ : ∃ locs : List Loc, locs = [] := ⟨_, rfl⟩
  have hw : Wd D A s.heap H locs (wX7 o cA oM) := by rw [hH, hlc]; exact hw
  have goal : W p l e rmX7_dot s m ([.ref (o 0), .int a1, .int a2, .int a3] : List Value).toArray below meth c H locs 0 0 Q (F0 m 0 ls []) := by
    clear hH hlc
    refine lv_aload_n hx hb dX7_dot_0 rfl (lv_at hl 0 rfl) ?_
    obtain ⟨x1, g2, hf⟩ := bn1_e hf
    have fr := fr_X7_X7_oM o cA oM oM
    refine go_i (run_v (As := []) (rest := []) ⟨hx, hb, hml, hown, hts⟩ (k_X7_isSheet l D cA o oM x1 g2 H.size) (cwV 0 hts gX7_dot_X7_isSheet rfl rfl rfl hd_X7_isSheet ⟨Nat.le_of_ble_eq_true rfl, Nat.le_of_ble_eq_true rfl⟩) fr hw hK hA hZo hZ (ci := 7) rfl rfl rfl rfl hl.1 rfl (Nat.le_of_ble_eq_true rfl) dX7_dot_1 ⟨Nat.zero_le _, Nat.zero_le _⟩) fr hw hA (fun H locs hw => ?_)
    refine lv_if_ne (tgt := 10) hx hb dX7_dot_4 (by decide) (fun c3 => ?_) (fun c3 => ?_)
    · have hf := if_f c3 hf
      refine lv_aload_n hx hb dX7_dot_10 rfl (lv_at hl 0 rfl) ?_
      refine lv_iload_n hx hb dX7_dot_11 rfl (lv_at hl 1 rfl) ?_
      refine lv_iload_n hx hb dX7_dot_12 rfl (lv_at hl 2 rfl) ?_
      obtain ⟨x4, g5, hf⟩ := bn1_e hf
      have fr := fr_X7_X7_oM o cA oM oM
      refine go_i (run_v (As := [.int a1, .int a2]) (rest := []) ⟨hx, hb, hml, hown, hts⟩ (k_X7_isOn l D cA o oM a1 a2 x4 g5 H.size) (cwV 2 hts gX7_dot_X7_isOn rfl rfl rfl hd_X7_isOn ⟨Nat.le_of_ble_eq_true rfl, Nat.le_of_ble_eq_true rfl⟩) fr hw hK hA hZo hZ (ci := 7) rfl rfl rfl rfl hl.1 rfl (Nat.le_of_ble_eq_true rfl) dX7_dot_13 ⟨Nat.zero_le _, Nat.zero_le _⟩) fr hw hA (fun H locs hw => ?_)
      refine lv_if_eq (tgt := 29) hx hb dX7_dot_16 (by decide) (fun c6 => ?_) (fun c6 => ?_)
      · have hf := if_t c6 hf
        refine lv_bipush (v := (-102)) hx hb dX7_dot_29 (by decide) ?_
        obtain ⟨e0_, e1_⟩ := sm2 hf
        exact hret _ _ _ _ _ (by rw [← e1_]; exact hw) e0_ (Or.inl rfl) dX7_dot_31
      · have hf := if_f c6 hf
        refine lv_iload_n hx hb dX7_dot_19 rfl (lv_at hl 3 rfl) ?_
        refine lv_iconst (v := (-1)) hx hb dX7_dot_20 (by decide) ?_
        refine lv_bipush (v := 7) hx hb dX7_dot_21 (by decide) ?_
        obtain ⟨x7, g8, hf⟩ := bn1_e hf
        have fr := fr_X7_S o cA oM
        refine go_i (run_s (As := [.int a3, .int ((-1)), .int 7]) (rest := []) ⟨hx, hb, hml, hown, hts⟩ (k_X7_within l D cA a3 ((-1)) 7 x7 g8 H.size) (va_cwS 3 hts gX7_dot_X7_within rfl rfl rfl hd_X7_within ⟨Nat.le_of_ble_eq_true rfl, Nat.le_of_ble_eq_true rfl⟩) fr hw hK hA rfl hl.1 rfl (Nat.le_of_ble_eq_true rfl) dX7_dot_23 ⟨Nat.zero_le _, Nat.zero_le _⟩) fr hw hA (fun H locs hw => ?_)
        refine lv_if_ne (tgt := 32) hx hb dX7_dot_26 (by decide) (fun c9 => ?_) (fun c9 => ?_)
        · have hf := if_f c9 hf
          refine lv_aload_n hx hb dX7_dot_32 rfl (lv_at hl 0 rfl) ?_
          refine lv_iload_n hx hb dX7_dot_33 rfl (lv_at hl 1 rfl) ?_
          refine lv_iload_n hx hb dX7_dot_34 rfl (lv_at hl 2 rfl) ?_
          obtain ⟨x10, g11, hf⟩ := bn1_e hf
          have fr := fr_X7_X7_oM o cA oM oM
          refine go_i (run_v (As := [.int a1, .int a2]) (rest := []) ⟨hx, hb, hml, hown, hts⟩ (k_X7_isTaken l D cA o oM a1 a2 x10 g11 H.size) (cwV 2 hts gX7_dot_X7_isTaken rfl rfl rfl hd_X7_isTaken ⟨Nat.le_of_ble_eq_true rfl, Nat.le_of_ble_eq_true rfl⟩) fr hw hK hA hZo hZ (ci := 7) rfl rfl rfl rfl hl.1 rfl (Nat.le_of_ble_eq_true rfl) dX7_dot_35 ⟨Nat.zero_le _, Nat.zero_le _⟩) fr hw hA (fun H locs hw => ?_)
          refine lv_if_eq (tgt := 44) hx hb dX7_dot_38 (by decide) (fun c12 => ?_) (fun c12 => ?_)
          · have hf := if_t c12 hf
            refine lv_aload_n hx hb dX7_dot_44 rfl (lv_at hl 0 rfl) ?_
            refine w_get hx hb hts hi7 hown hK hw 0 rfl rfl 5 (by decide) q0 rfl (v := .int (oM.1 5)) rfl dX7_dot_45 ?_
            refine lv_bipush (v := 14) hx hb dX7_dot_48 (by decide) ?_
            refine lv_icmp_ne (tgt := 56) hx hb dX7_dot_50 (by decide) (fun c13 => ?_) (fun c13 => ?_)
            · have hf := if_f c13 hf
              refine lv_aload_n hx hb dX7_dot_56 rfl (lv_at hl 0 rfl) ?_
              refine lv_iload_n hx hb dX7_dot_57 rfl (lv_at hl 1 rfl) ?_
              refine lv_iload_n hx hb dX7_dot_58 rfl (lv_at hl 2 rfl) ?_
              refine lv_iload_n hx hb dX7_dot_59 rfl (lv_at hl 3 rfl) ?_
              obtain ⟨oM14, g15, hf⟩ := bn1_e hf
              have fr := fr_X7_X7_oM o cA oM oM14
              refine go_v (run_v (As := [.int a1, .int a2, .int a3]) (rest := []) ⟨hx, hb, hml, hown, hts⟩ (k_X7_comes l D cA o oM a1 a2 a3 oM14 g15 H.size) (cwV 3 hts gX7_dot_X7_comes rfl rfl rfl hd_X7_comes ⟨Nat.le_of_ble_eq_true rfl, Nat.le_of_ble_eq_true rfl⟩) fr hw hK hA hZo hZ (ci := 7) rfl rfl rfl rfl hl.1 rfl (Nat.le_of_ble_eq_true rfl) dX7_dot_60 ⟨Nat.zero_le _, Nat.zero_le _⟩) fr hw hA (fun H locs hw => ?_)
              refine lv_aload_n hx hb dX7_dot_63 rfl (lv_at hl 0 rfl) ?_
              refine w_get hx hb hts hi7 hown hK hw 0 rfl rfl 5 (by decide) q0 rfl (v := .int (oM14.1 5)) rfl dX7_dot_64 ?_
              refine lv_iconst (v := 1) hx hb dX7_dot_67 (by decide) ?_
              refine lv_isub hx hb dX7_dot_68 ?_
              obtain ⟨e0_, e1_⟩ := sm2 hf
              exact hret _ _ _ _ _ (by rw [← e1_]; exact hw) e0_ (Or.inl rfl) dX7_dot_69
            · have hf := if_t c13 hf
              refine lv_bipush (v := (-104)) hx hb dX7_dot_53 (by decide) ?_
              obtain ⟨e0_, e1_⟩ := sm2 hf
              exact hret _ _ _ _ _ (by rw [← e1_]; exact hw) e0_ (Or.inl rfl) dX7_dot_55
          · have hf := if_f c12 hf
            refine lv_bipush (v := (-103)) hx hb dX7_dot_41 (by decide) ?_
            obtain ⟨e0_, e1_⟩ := sm2 hf
            exact hret _ _ _ _ _ (by rw [← e1_]; exact hw) e0_ (Or.inl rfl) dX7_dot_43
        · have hf := if_t c9 hf
          refine lv_bipush (v := (-102)) hx hb dX7_dot_29 (by decide) ?_
          obtain ⟨e0_, e1_⟩ := sm2 hf
          exact hret _ _ _ _ _ (by rw [← e1_]; exact hw) e0_ (Or.inl rfl) dX7_dot_31
    · have hf := if_t c3 hf
      refine lv_bipush (v := (-103)) hx hb dX7_dot_7 (by decide) ?_
      obtain ⟨e0_, e1_⟩ := sm2 hf
      exact hret _ _ _ _ _ (by rw [← e1_]; exact hw) e0_ (Or.inl rfl) dX7_dot_9
  rw [hH, hlc] at goal
  exact goal
abbrev rmX7_lift : Room := { frames := 2, cells := 0, slots := 0, locals := 43 }
theorem hd_X7_lift : yX7_lift.cls = RX7 ∧ yX7_lift.cls ≠ "java/lang/invoke/MethodHandle" ∧ yX7_lift.cls ≠ "java/lang/invoke/VarHandle" ∧ (parseMethodDescriptor yX7_lift.desc).map (fun d => d.parameters.length) = some 1 := by decide +kernel
set_option maxHeartbeats 4000000 in
set_option maxRecDepth 100000 in
theorem k_X7_lift (l : Launch) (D : va_G) (cA : ClassId) (o : Nat → Nat) (oM : St) (a1 : Int32) (r : Int32) (oM' : St) (hf : f_X7_lift oM a1 = some (r, oM')) : Mi l yX7_lift wsX7_lift rmX7_lift D cA z_0 [.ref (o 0), .int a1] (wX7 o cA oM) r (wX7 o cA oM') := by
  refine Mi.of (cc := cX7_lift) (maxL := 3) (ret := (some .int)) (plainFor_of_name (by decide)) rfl (Nat.le_of_ble_eq_true rfl) (Or.inl rfl) ?_
  intro p e s m below meth c A Q hx hb hml hown hts hK hA hZ hret ls hl hw
  replace hown : s.vm.findClass RX7 = some m.cls := hown
  have hl : lv_has ls 3 [(0, .ref (o 0)), (1, .int a1)] := hl
  have hZo := z_0_ok
  have hi7 : ∀ w ∈ wsX70, w ∈ wsX7_lift := fun w h => List.mem_cons_of_mem _ (List.mem_append_right _ h)
  have q0 := hts (.fieldLink RX7 121 "ArcRingsModel" "dots" "I") (by decide +kernel)
  have q1 := hts (.fieldLink RX7 124 "ArcRingsModel" "isHunted" "Z") (by decide +kernel)
  have q2 := hts (.fieldLink RX7 13 "ArcRingsModel" "dotX" "[I") (by decide +kernel)
  have q3 := hts (.fieldLink RX7 16 "ArcRingsModel" "dotY" "[I") (by decide +kernel)
  have q4 := hts (.fieldLink RX7 19 "ArcRingsModel" "turnOf" "[I") (by decide +kernel)
  have h_L23 : ∀ (n : Nat) (v2 : Int32) (oM : St), f_X7_lift_L23  n v2 oM = some (r, oM') → ∀ (H : Heap) (locs : List Loc) (ls : Array Slot), Wd D A s.heap H locs (wX7 o cA oM) → lv_has ls 3 [(0, .ref (o 0)), (2, .int v2)] → W p l e rmX7_lift s m ([.ref (o 0), .int a1] : List Value).toArray below meth c H locs 0 0 Q (F0 m 23 ls []) := by
    intro n
    induction n with
    | zero =>
      intro v2 oM hf
      have hf : none = some (r, oM') := hf
      cases hf
    | succ n ih =>
      intro v2 oM hf H locs ls hw hl
      have hf := (f_X7_lift_L23_s  n v2 oM).symm.trans hf
      refine lv_iload_n hx hb dX7_lift_23 rfl (lv_at hl 1 rfl) ?_
      refine lv_aload_n hx hb dX7_lift_24 rfl (lv_at hl 0 rfl) ?_
      refine w_get hx hb hts hi7 hown hK hw 0 rfl rfl 5 (by decide) q0 rfl (v := .int (oM.1 5)) rfl dX7_lift_25 ?_
      refine lv_icmp_ge (tgt := 79) hx hb dX7_lift_28 (by decide) (fun c4 => ?_) (fun c4 => ?_)
      · have hf := if_t c4 hf
        refine lv_aload_n hx hb dX7_lift_79 rfl (lv_at hl 0 rfl) ?_
        refine lv_iconst (v := 0) hx hb dX7_lift_80 (by decide) ?_
        refine w_put (ws' := (wX7 o cA ((sI oM 10 0)))) hx hb hts hi7 tyX7 tyX7_ok nmX7 hown hK hw 0 rfl rfl 10 (by decide) q1 rfl rfl (by decide) (by decide) (Nat.le_of_ble_eq_true rfl) rfl dX7_lift_81 (fun H locs hw => ?_)
        refine lv_aload_n hx hb dX7_lift_84 rfl (lv_at hl 0 rfl) ?_
        refine w_get hx hb hts hi7 hown hK hw 0 rfl rfl 5 (by decide) q0 rfl (v := .int (oM.1 5)) rfl dX7_lift_85 ?_
        obtain ⟨e0_, e1_⟩ := sm2 hf
        exact hret _ _ _ _ _ (by rw [← e1_]; exact hw) e0_ (Or.inl rfl) dX7_lift_88
      · have hf := if_f c4 hf
        refine lv_aload_n hx hb dX7_lift_31 rfl (lv_at hl 0 rfl) ?_
        refine w_get hx hb hts hi7 hown hK hw 0 rfl rfl 6 (by decide) q2 rfl (v := .ref (o 2)) rfl dX7_lift_32 ?_
        refine lv_iload_n hx hb dX7_lift_35 rfl (lv_at hl 1 rfl) ?_
        refine lv_aload_n hx hb dX7_lift_36 rfl (lv_at hl 0 rfl) ?_
        refine w_get hx hb hts hi7 hown hK hw 0 rfl rfl 6 (by decide) q2 rfl (v := .ref (o 2)) rfl dX7_lift_37 ?_
        refine lv_iload_n hx hb dX7_lift_40 rfl (lv_at hl 1 rfl) ?_
        refine lv_iconst (v := 1) hx hb dX7_lift_41 (by decide) ?_
        refine lv_iadd hx hb dX7_lift_42 ?_
        obtain ⟨x5, g6, hf⟩ := bn1_e hf
        refine w_ald hx hb hK hw 2 rfl g6 dX7_lift_43 ?_
        obtain ⟨oM8, g7, hf⟩ := bn1_e hf
        refine w_aws hx hb hK hw 2 rfl g7 (fun z => (wX7 o cA z)) (fun _ => rfl) dX7_lift_44 (fun H locs hw => ?_)
        refine lv_aload_n hx hb dX7_lift_45 rfl (lv_at hl 0 rfl) ?_
        refine w_get hx hb hts hi7 hown hK hw 0 rfl rfl 7 (by decide) q3 rfl (v := .ref (o 3)) rfl dX7_lift_46 ?_
        refine lv_iload_n hx hb dX7_lift_49 rfl (lv_at hl 1 rfl) ?_
        refine lv_aload_n hx hb dX7_lift_50 rfl (lv_at hl 0 rfl) ?_
        refine w_get hx hb hts hi7 hown hK hw 0 rfl rfl 7 (by decide) q3 rfl (v := .ref (o 3)) rfl dX7_lift_51 ?_
        refine lv_iload_n hx hb dX7_lift_54 rfl (lv_at hl 1 rfl) ?_
        refine lv_iconst (v := 1) hx hb dX7_lift_55 (by decide) ?_
        refine lv_iadd hx hb dX7_lift_56 ?_
        obtain ⟨x9, g10, hf⟩ := bn1_e hf
        refine w_ald hx hb hK hw 3 rfl g10 dX7_lift_57 ?_
        obtain ⟨oM12, g11, hf⟩ := bn1_e hf
        refine w_aws hx hb hK hw 3 rfl g11 (fun z => (wX7 o cA z)) (fun _ => rfl) dX7_lift_58 (fun H locs hw => ?_)
        refine lv_aload_n hx hb dX7_lift_59 rfl (lv_at hl 0 rfl) ?_
        refine w_get hx hb hts hi7 hown hK hw 0 rfl rfl 8 (by decide) q4 rfl (v := .ref (o 4)) rfl dX7_lift_60 ?_
        refine lv_iload_n hx hb dX7_lift_63 rfl (lv_at hl 1 rfl) ?_
        refine lv_aload_n hx hb dX7_lift_64 rfl (lv_at hl 0 rfl) ?_
        refine w_get hx hb hts hi7 hown hK hw 0 rfl rfl 8 (by decide) q4 rfl (v := .ref (o 4)) rfl dX7_lift_65 ?_
        refine lv_iload_n hx hb dX7_lift_68 rfl (lv_at hl 1 rfl) ?_
        refine lv_iconst (v := 1) hx hb dX7_lift_69 (by decide) ?_
        refine lv_iadd hx hb dX7_lift_70 ?_
        obtain ⟨x13, g14, hf⟩ := bn1_e hf
        refine w_ald hx hb hK hw 4 rfl g14 dX7_lift_71 ?_
        obtain ⟨oM16, g15, hf⟩ := bn1_e hf
        refine w_aws hx hb hK hw 4 rfl g15 (fun z => (wX7 o cA z)) (fun _ => rfl) dX7_lift_72 (fun H locs hw => ?_)
        refine lv_iinc (v := v2 + 1) (lv' := [(2, .int (v2 + 1)), (0, .ref (o 0))]) hx hb dX7_lift_73 hl (k := 1) rfl (by rfl) (by decide) rfl (fun ls hl => ?_)
        refine lv_goto (tgt := 23) hx hb dX7_lift_76 (by decide) ?_
        exact ih (v2 + 1) oM16 hf H locs ls hw (lv_sub hl [1, 0] rfl)
  unfold f_X7_lift at hf
  obtain ⟨H, hH⟩ : ∃ H, H = s.heap := ⟨_, rfl⟩
  obtain ⟨locs, hlc⟩ : ∃ locs : List Loc, locs = [] := ⟨_, rfl⟩
  have hw : Wd D A s.heap H locs (wX7 o cA oM) := by rw [hH, hlc]; exact hw
  have goal : W p l e rmX7_lift s m ([.ref (o 0), .int a1] : List Value).toArray below meth c H locs 0 0 Q (F0 m 0 ls []) := by
    clear hH hlc
    refine lv_aload_n hx hb dX7_lift_0 rfl (lv_at hl 0 rfl) ?_
    refine lv_iload_n hx hb dX7_lift_1 rfl (lv_at hl 1 rfl) ?_
    obtain ⟨x1, g2, hf⟩ := bn1_e hf
    have fr := fr_X7_X7_oM o cA oM oM
    refine go_i (run_v (As := [.int a1]) (rest := []) ⟨hx, hb, hml, hown, hts⟩ (k_X7_isDot l D cA o oM a1 x1 g2 H.size) (cwV 1 hts gX7_lift_X7_isDot rfl rfl rfl hd_X7_isDot ⟨Nat.le_of_ble_eq_true rfl, Nat.le_of_ble_eq_true rfl⟩) fr hw hK hA hZo hZ (ci := 7) rfl rfl rfl rfl hl.1 rfl (Nat.le_of_ble_eq_true rfl) dX7_lift_2 ⟨Nat.zero_le _, Nat.zero_le _⟩) fr hw hA (fun H locs hw => ?_)
    refine lv_if_ne (tgt := 11) hx hb dX7_lift_5 (by decide) (fun c3 => ?_) (fun c3 => ?_)
    · have hf := if_f c3 hf
      refine lv_aload_n hx hb dX7_lift_11 rfl (lv_at hl 0 rfl) ?_
      refine lv_dup hx hb dX7_lift_12 rfl ?_
      refine w_get hx hb hts hi7 hown hK hw 0 rfl rfl 5 (by decide) q0 rfl (v := .int (oM.1 5)) rfl dX7_lift_13 ?_
      refine lv_iconst (v := 1) hx hb dX7_lift_16 (by decide) ?_
      refine lv_isub hx hb dX7_lift_17 ?_
      refine w_put (ws' := (wX7 o cA ((sI oM 5 ((oM.1 5) - 1))))) hx hb hts hi7 tyX7 tyX7_ok nmX7 hown hK hw 0 rfl rfl 5 (by decide) q0 rfl rfl rfl rfl (Nat.le_of_ble_eq_true rfl) rfl dX7_lift_18 (fun H locs hw => ?_)
      refine lv_iload_n hx hb dX7_lift_21 rfl (lv_at hl 1 rfl) ?_
      refine lv_istore_n (lv' := [(2, .int a1), (0, .ref (o 0)), (1, .int a1)]) hx hb dX7_lift_22 rfl hl (by decide) rfl (fun ls hl => ?_)
      exact h_L23  _ a1 ((sI oM 5 ((oM.1 5) - 1))) hf H locs ls hw (lv_sub hl [1, 0] rfl)
    · have hf := if_t c3 hf
      refine lv_bipush (v := (-101)) hx hb dX7_lift_8 (by decide) ?_
      obtain ⟨e0_, e1_⟩ := sm2 hf
      exact hret _ _ _ _ _ (by rw [← e1_]; exact hw) e0_ (Or.inl rfl) dX7_lift_10
  rw [hH, hlc] at goal
  exact goal
abbrev rmX7_comesIfFree : Room := { frames := 2, cells := 0, slots := 0, locals := 44 }
theorem hd_X7_comesIfFree : yX7_comesIfFree.cls = RX7 ∧ yX7_comesIfFree.cls ≠ "java/lang/invoke/MethodHandle" ∧ yX7_comesIfFree.cls ≠ "java/lang/invoke/VarHandle" ∧ (parseMethodDescriptor yX7_comesIfFree.desc).map (fun d => d.parameters.length) = some 3 := by decide +kernel
set_option maxHeartbeats 4000000 in
set_option maxRecDepth 100000 in
theorem k_X7_comesIfFree (l : Launch) (D : va_G) (cA : ClassId) (o : Nat → Nat) (oM : St) (a1 : Int32) (a2 : Int32) (a3 : Int32) (r : Int32) (oM' : St) (hf : f_X7_comesIfFree oM a1 a2 a3 = some (r, oM')) : Mi l yX7_comesIfFree wsX7_comesIfFree rmX7_comesIfFree D cA z_0 [.ref (o 0), .int a1, .int a2, .int a3] (wX7 o cA oM) r (wX7 o cA oM') := by
  refine Mi.of (cc := cX7_comesIfFree) (maxL := 5) (ret := (some .boolean)) (plainFor_of_name (by decide)) rfl (Nat.le_of_ble_eq_true rfl) (Or.inr rfl) ?_
  intro p e s m below meth c A Q hx hb hml hown hts hK hA hZ hret ls hl hw
  replace hown : s.vm.findClass RX7 = some m.cls := hown
  have hl : lv_has ls 5 [(0, .ref (o 0)), (1, .int a1), (2, .int a2), (3, .int a3)] := hl
  have hZo := z_0_ok
  have hi7 : ∀ w ∈ wsX70, w ∈ wsX7_comesIfFree := fun w h => List.mem_cons_of_mem _ (List.mem_append_right _ h)
  have q0 := hts (.fieldLink RX7 121 "ArcRingsModel" "dots" "I") (by decide +kernel)
  unfold f_X7_comesIfFree at hf
  obtain ⟨H, hH⟩ : ∃ H, H = s.heap := ⟨_, rfl⟩
  obtain ⟨locs, hlc⟩ : ∃ locs : List Loc, locs = [] := ⟨_, rfl⟩
  have hw : Wd D A s.heap H locs (wX7 o cA oM) := by rw [hH, hlc]; exact hw
  have goal : W p l e rmX7_comesIfFree s m ([.ref (o 0), .int a1, .int a2, .int a3] : List Value).toArray below meth c H locs 0 0 Q (F0 m 0 ls []) := by
    clear hH hlc
    refine lv_aload_n hx hb dX7_comesIfFree_0 rfl (lv_at hl 0 rfl) ?_
    refine lv_iload_n hx hb dX7_comesIfFree_1 rfl (lv_at hl 1 rfl) ?_
    refine lv_iload_n hx hb dX7_comesIfFree_2 rfl (lv_at hl 2 rfl) ?_
    obtain ⟨x1, g2, hf⟩ := bn1_e hf
    have fr := fr_X7_X7_oM o cA oM oM
    refine go_i (run_v (As := [.int a1, .int a2]) (rest := []) ⟨hx, hb, hml, hown, hts⟩ (k_X7_isOn l D cA o oM a1 a2 x1 g2 H.size) (cwV 2 hts gX7_comesIfFree_X7_isOn rfl rfl rfl hd_X7_isOn ⟨Nat.le_of_ble_eq_true rfl, Nat.le_of_ble_eq_true rfl⟩) fr hw hK hA hZo hZ (ci := 7) rfl rfl rfl rfl hl.1 rfl (Nat.le_of_ble_eq_true rfl) dX7_comesIfFree_3 ⟨Nat.zero_le _, Nat.zero_le _⟩) fr hw hA (fun H locs hw => ?_)
    refine lv_if_eq (tgt := 31) hx hb dX7_comesIfFree_6 (by decide) (fun c3 => ?_) (fun c3 => ?_)
    · have hf := if_t c3 hf
      refine lv_iconst (v := 0) hx hb dX7_comesIfFree_31 (by decide) ?_
      refine lv_istore (lv' := [(4, .int 0), (0, .ref (o 0)), (1, .int a1), (2, .int a2), (3, .int a3)]) hx hb dX7_comesIfFree_32 hl (by decide) rfl (fun ls hl => ?_)
      refine lv_iload hx hb dX7_comesIfFree_34 (lv_at hl 0 rfl) ?_
      refine lv_if_eq (tgt := 46) hx hb dX7_comesIfFree_36 (by decide) (fun c4 => ?_) (fun c4 => ?_)
      rotate_left
      · exact absurd c4 (by decide)
      refine lv_iload hx hb dX7_comesIfFree_46 (lv_at hl 0 rfl) ?_
      obtain ⟨e0_, e1_⟩ := sm2 hf
      exact hret _ _ _ _ _ (by rw [← e1_]; exact hw) e0_ (Or.inr (Or.inl rfl)) dX7_comesIfFree_48
    · have hf := if_f c3 hf
      refine lv_aload_n hx hb dX7_comesIfFree_9 rfl (lv_at hl 0 rfl) ?_
      refine lv_iload_n hx hb dX7_comesIfFree_10 rfl (lv_at hl 1 rfl) ?_
      refine lv_iload_n hx hb dX7_comesIfFree_11 rfl (lv_at hl 2 rfl) ?_
      obtain ⟨x5, g6, hf⟩ := bn1_e hf
      have fr := fr_X7_X7_oM o cA oM oM
      refine go_i (run_v (As := [.int a1, .int a2]) (rest := []) ⟨hx, hb, hml, hown, hts⟩ (k_X7_isTaken l D cA o oM a1 a2 x5 g6 H.size) (cwV 2 hts gX7_comesIfFree_X7_isTaken rfl rfl rfl hd_X7_isTaken ⟨Nat.le_of_ble_eq_true rfl, Nat.le_of_ble_eq_true rfl⟩) fr hw hK hA hZo hZ (ci := 7) rfl rfl rfl rfl hl.1 rfl (Nat.le_of_ble_eq_true rfl) dX7_comesIfFree_12 ⟨Nat.zero_le _, Nat.zero_le _⟩) fr hw hA (fun H locs hw => ?_)
      refine lv_if_ne (tgt := 31) hx hb dX7_comesIfFree_15 (by decide) (fun c7 => ?_) (fun c7 => ?_)
      · have hf := if_f c7 hf
        refine lv_iconst (v := 0) hx hb dX7_comesIfFree_31 (by decide) ?_
        refine lv_istore (lv' := [(4, .int 0), (0, .ref (o 0)), (1, .int a1), (2, .int a2), (3, .int a3)]) hx hb dX7_comesIfFree_32 hl (by decide) rfl (fun ls hl => ?_)
        refine lv_iload hx hb dX7_comesIfFree_34 (lv_at hl 0 rfl) ?_
        refine lv_if_eq (tgt := 46) hx hb dX7_comesIfFree_36 (by decide) (fun c8 => ?_) (fun c8 => ?_)
        rotate_left
        · exact absurd c8 (by decide)
        refine lv_iload hx hb dX7_comesIfFree_46 (lv_at hl 0 rfl) ?_
        obtain ⟨e0_, e1_⟩ := sm2 hf
        exact hret _ _ _ _ _ (by rw [← e1_]; exact hw) e0_ (Or.inr (Or.inl rfl)) dX7_comesIfFree_48
      · have hf := if_t c7 hf
        refine lv_aload_n hx hb dX7_comesIfFree_18 rfl (lv_at hl 0 rfl) ?_
        refine w_get hx hb hts hi7 hown hK hw 0 rfl rfl 5 (by decide) q0 rfl (v := .int (oM.1 5)) rfl dX7_comesIfFree_19 ?_
        refine lv_bipush (v := 14) hx hb dX7_comesIfFree_22 (by decide) ?_
        refine lv_icmp_ge (tgt := 31) hx hb dX7_comesIfFree_24 (by decide) (fun c9 => ?_) (fun c9 => ?_)
        · have hf := if_t c9 hf
          refine lv_iconst (v := 0) hx hb dX7_comesIfFree_31 (by decide) ?_
          refine lv_istore (lv' := [(4, .int 0), (0, .ref (o 0)), (1, .int a1), (2, .int a2), (3, .int a3)]) hx hb dX7_comesIfFree_32 hl (by decide) rfl (fun ls hl => ?_)
          refine lv_iload hx hb dX7_comesIfFree_34 (lv_at hl 0 rfl) ?_
          refine lv_if_eq (tgt := 46) hx hb dX7_comesIfFree_36 (by decide) (fun c10 => ?_) (fun c10 => ?_)
          rotate_left
          · exact absurd c10 (by decide)
          refine lv_iload hx hb dX7_comesIfFree_46 (lv_at hl 0 rfl) ?_
          obtain ⟨e0_, e1_⟩ := sm2 hf
          exact hret _ _ _ _ _ (by rw [← e1_]; exact hw) e0_ (Or.inr (Or.inl rfl)) dX7_comesIfFree_48
        · have hf := if_f c9 hf
          refine lv_iconst (v := 1) hx hb dX7_comesIfFree_27 (by decide) ?_
          refine lv_goto (tgt := 32) hx hb dX7_comesIfFree_28 (by decide) ?_
          refine lv_istore (lv' := [(4, .int 1), (0, .ref (o 0)), (1, .int a1), (2, .int a2), (3, .int a3)]) hx hb dX7_comesIfFree_32 hl (by decide) rfl (fun ls hl => ?_)
          refine lv_iload hx hb dX7_comesIfFree_34 (lv_at hl 0 rfl) ?_
          refine lv_if_eq (tgt := 46) hx hb dX7_comesIfFree_36 (by decide) (fun c11 => ?_) (fun c11 => ?_)
          · exact absurd c11 (by decide)
          refine lv_aload_n hx hb dX7_comesIfFree_39 rfl (lv_at hl 1 rfl) ?_
          refine lv_iload_n hx hb dX7_comesIfFree_40 rfl (lv_at hl 2 rfl) ?_
          refine lv_iload_n hx hb dX7_comesIfFree_41 rfl (lv_at hl 3 rfl) ?_
          refine lv_iload_n hx hb dX7_comesIfFree_42 rfl (lv_at hl 4 rfl) ?_
          obtain ⟨oM12, g13, hf⟩ := bn1_e hf
          have fr := fr_X7_X7_oM o cA oM oM12
          refine go_v (run_v (As := [.int a1, .int a2, .int a3]) (rest := []) ⟨hx, hb, hml, hown, hts⟩ (k_X7_comes l D cA o oM a1 a2 a3 oM12 g13 H.size) (cwV 3 hts gX7_comesIfFree_X7_comes rfl rfl rfl hd_X7_comes ⟨Nat.le_of_ble_eq_true rfl, Nat.le_of_ble_eq_true rfl⟩) fr hw hK hA hZo hZ (ci := 7) rfl rfl rfl rfl hl.1 rfl (Nat.le_of_ble_eq_true rfl) dX7_comesIfFree_43 ⟨Nat.zero_le _, Nat.zero_le _⟩) fr hw hA (fun H locs hw => ?_)
          refine lv_iload hx hb dX7_comesIfFree_46 (lv_at hl 0 rfl) ?_
          obtain ⟨e0_, e1_⟩ := sm2 hf
          exact hret _ _ _ _ _ (by rw [← e1_]; exact hw) e0_ (Or.inr (Or.inr rfl)) dX7_comesIfFree_48
  rw [hH, hlc] at goal
  exact goal
abbrev rmX7_arc : Room := { frames := 3, cells := 0, slots := 0, locals := 68 }
theorem hd_X7_arc : yX7_arc.cls = RX7 ∧ yX7_arc.cls ≠ "java/lang/invoke/MethodHandle" ∧ yX7_arc.cls ≠ "java/lang/invoke/VarHandle" ∧ (parseMethodDescriptor yX7_arc.desc).map (fun d => d.parameters.length) = some 4 := by decide +kernel
set_option maxHeartbeats 4000000 in
set_option maxRecDepth 100000 in
theorem k_X7_arc (l : Launch) (D : va_G) (cA : ClassId) (o : Nat → Nat) (oM : St) (a1 : Int32) (a2 : Int32) (a3 : Int32) (a4 : Int32) (r : Int32) (oM' : St) (hf : f_X7_arc oM a1 a2 a3 a4 = some (r, oM')) : Mi l yX7_arc wsX7_arc rmX7_arc D cA z_0 [.ref (o 0), .int a1, .int a2, .int a3, .int a4] (wX7 o cA oM) r (wX7 o cA oM') := by
  refine Mi.of (cc := cX7_arc) (maxL := 9) (ret := (some .int)) (plainFor_of_name (by decide)) rfl (Nat.le_of_ble_eq_true rfl) (Or.inl rfl) ?_
  intro p e s m below meth c A Q hx hb hml hown hts hK hA hZ hret ls hl hw
  replace hown : s.vm.findClass RX7 = some m.cls := hown
  have hl : lv_has ls 9 [(0, .ref (o 0)), (1, .int a1), (2, .int a2), (3, .int a3), (4, .int a4)] := hl
  have hZo := z_0_ok
  have h_L63 : ∀ (v1 : Int32) (v2 : Int32) (v3 : Int32) (v4 : Int32), ∀ (n : Nat) (v5 : Int32) (v6 : Int32) (oM : St), f_X7_arc_L63 v1 v2 v3 v4 n v5 v6 oM = some (r, oM') → ∀ (H : Heap) (locs : List Loc) (ls : Array Slot), Wd D A s.heap H locs (wX7 o cA oM) → lv_has ls 9 [(0, .ref (o 0)), (1, .int v1), (2, .int v2), (3, .int v3), (4, .int v4), (5, .int v5), (6, .int v6)] → W p l e rmX7_arc s m ([.ref (o 0), .int a1, .int a2, .int a3, .int a4] : List Value).toArray below meth c H locs 0 0 Q (F0 m 63 ls []) := by
    intro v1 v2 v3 v4 n
    induction n with
    | zero =>
      intro v5 v6 oM hf
      have hf : none = some (r, oM') := hf
      cases hf
    | succ n ih =>
      intro v5 v6 oM hf H locs ls hw hl
      have hf := (f_X7_arc_L63_s v1 v2 v3 v4 n v5 v6 oM).symm.trans hf
      refine lv_iload hx hb dX7_arc_63 (lv_at hl 6 rfl) ?_
      refine lv_bipush (v := 8) hx hb dX7_arc_65 (by decide) ?_
      refine lv_icmp_ge (tgt := 146) hx hb dX7_arc_67 (by decide) (fun c16 => ?_) (fun c16 => ?_)
      · have hf := if_t c16 hf
        refine lv_iload hx hb dX7_arc_146 (lv_at hl 5 rfl) ?_
        obtain ⟨e0_, e1_⟩ := sm2 hf
        exact hret _ _ _ _ _ (by rw [← e1_]; exact hw) e0_ (Or.inl rfl) dX7_arc_148
      · have hf := if_f c16 hf
        refine lv_iload hx hb dX7_arc_70 (lv_at hl 6 rfl) ?_
        refine lv_iload_n hx hb dX7_arc_72 rfl (lv_at hl 3 rfl) ?_
        obtain ⟨x17, g18, hf⟩ := bn1_e hf
        have fr := fr_X7_S o cA oM
        refine go_i (run_s (As := [.int v6, .int v3]) (rest := []) ⟨hx, hb, hml, hown, hts⟩ (k_X7_stepsOf l D cA v6 v3 x17 g18 H.size) (va_cwS 2 hts gX7_arc_X7_stepsOf rfl rfl rfl hd_X7_stepsOf ⟨Nat.le_of_ble_eq_true rfl, Nat.le_of_ble_eq_true rfl⟩) fr hw hK hA rfl hl.1 rfl (Nat.le_of_ble_eq_true rfl) dX7_arc_73 ⟨Nat.zero_le _, Nat.zero_le _⟩) fr hw hA (fun H locs hw => ?_)
        refine lv_istore (lv' := [(7, .int x17), (0, .ref (o 0)), (1, .int v1), (2, .int v2), (3, .int v3), (4, .int v4), (5, .int v5), (6, .int v6)]) hx hb dX7_arc_76 hl (by decide) rfl (fun ls hl => ?_)
        refine lv_iload hx hb dX7_arc_78 (lv_at hl 5 rfl) ?_
        refine lv_iload hx hb dX7_arc_80 (lv_at hl 7 rfl) ?_
        refine lv_ishr hx hb dX7_arc_82 ?_
        refine lv_iconst (v := 1) hx hb dX7_arc_83 (by decide) ?_
        refine lv_iand hx hb dX7_arc_84 ?_
        refine lv_iconst (v := 1) hx hb dX7_arc_85 (by decide) ?_
        refine lv_icmp_ne (tgt := 122) hx hb dX7_arc_86 (by decide) (fun c19 => ?_) (fun c19 => ?_)
        · have hf := if_f c19 hf
          refine lv_iconst (v := 0) hx hb dX7_arc_122 (by decide) ?_
          refine lv_istore (lv' := [(8, .int 0), (7, .int x17), (0, .ref (o 0)), (1, .int v1), (2, .int v2), (3, .int v3), (4, .int v4), (5, .int v5), (6, .int v6)]) hx hb dX7_arc_123 hl (by decide) rfl (fun ls hl => ?_)
          refine lv_iload hx hb dX7_arc_125 (lv_at hl 7 rfl) ?_
          refine lv_iload hx hb dX7_arc_127 (lv_at hl 0 rfl) ?_
          refine lv_if_eq (tgt := 136) hx hb dX7_arc_129 (by decide) (fun c20 => ?_) (fun c20 => ?_)
          rotate_left
          · exact absurd c20 (by decide)
          refine lv_iconst (v := 0) hx hb dX7_arc_136 (by decide) ?_
          refine lv_iadd hx hb dX7_arc_137 ?_
          refine lv_istore (lv' := [(5, .int (v5 + 0)), (8, .int 0), (7, .int x17), (0, .ref (o 0)), (1, .int v1), (2, .int v2), (3, .int v3), (4, .int v4), (6, .int v6)]) hx hb dX7_arc_138 hl (by decide) rfl (fun ls hl => ?_)
          refine lv_iinc (v := v6 + 1) (lv' := [(6, .int (v6 + 1)), (5, .int (v5 + 0)), (8, .int 0), (7, .int x17), (0, .ref (o 0)), (1, .int v1), (2, .int v2), (3, .int v3), (4, .int v4)]) hx hb dX7_arc_140 hl (k := 8) rfl (by rfl) (by decide) rfl (fun ls hl => ?_)
          refine lv_goto (tgt := 63) hx hb dX7_arc_143 (by decide) ?_
          exact ih (v5 + 0) (v6 + 1) oM hf H locs ls hw (lv_sub hl [4, 5, 6, 7, 8, 1, 0] rfl)
        · have hf := if_t c19 hf
          refine lv_aload_n hx hb dX7_arc_89 rfl (lv_at hl 1 rfl) ?_
          refine lv_iload_n hx hb dX7_arc_90 rfl (lv_at hl 2 rfl) ?_
          refine lv_iload hx hb dX7_arc_91 (lv_at hl 0 rfl) ?_
          refine lv_iload hx hb dX7_arc_93 (lv_at hl 7 rfl) ?_
          obtain ⟨x21, g22, hf⟩ := bn1_e hf
          have fr := fr_X7_S o cA oM
          refine go_i (run_s (As := [.int v6]) (rest := [.int x17, .int v1, .ref (o 0)]) ⟨hx, hb, hml, hown, hts⟩ (k_X7_turnX l D cA v6 x21 g22 H.size) (va_cwS 1 hts gX7_arc_X7_turnX rfl rfl rfl hd_X7_turnX ⟨Nat.le_of_ble_eq_true rfl, Nat.le_of_ble_eq_true rfl⟩) fr hw hK hA rfl hl.1 rfl (Nat.le_of_ble_eq_true rfl) dX7_arc_95 ⟨Nat.zero_le _, Nat.zero_le _⟩) fr hw hA (fun H locs hw => ?_)
          refine lv_imul hx hb dX7_arc_98 ?_
          refine lv_isub hx hb dX7_arc_99 ?_
          refine lv_iload_n hx hb dX7_arc_100 rfl (lv_at hl 3 rfl) ?_
          refine lv_iload hx hb dX7_arc_101 (lv_at hl 0 rfl) ?_
          refine lv_iload hx hb dX7_arc_103 (lv_at hl 7 rfl) ?_
          obtain ⟨x23, g24, hf⟩ := bn1_e hf
          have fr := fr_X7_S o cA oM
          refine go_i (run_s (As := [.int v6]) (rest := [.int x17, .int v2, .int (v1 - (x17 * x21)), .ref (o 0)]) ⟨hx, hb, hml, hown, hts⟩ (k_X7_turnY l D cA v6 x23 g24 H.size) (va_cwS 1 hts gX7_arc_X7_turnY rfl rfl rfl hd_X7_turnY ⟨Nat.le_of_ble_eq_true rfl, Nat.le_of_ble_eq_true rfl⟩) fr hw hK hA rfl hl.1 rfl (Nat.le_of_ble_eq_true rfl) dX7_arc_105 ⟨Nat.zero_le _, Nat.zero_le _⟩) fr hw hA (fun H locs hw => ?_)
          refine lv_imul hx hb dX7_arc_108 ?_
          refine lv_isub hx hb dX7_arc_109 ?_
          refine lv_iload hx hb dX7_arc_110 (lv_at hl 7 rfl) ?_
          obtain ⟨x25, oM26, g27, hf⟩ := bn2_e hf
          have fr := fr_X7_X7_oM o cA oM oM26
          refine go_i (run_v (As := [.int (v1 - (x17 * x21)), .int (v2 - (x17 * x23)), .int v6]) (rest := []) ⟨hx, hb, hml, hown, hts⟩ (k_X7_comesIfFree l D cA o oM (v1 - (x17 * x21)) (v2 - (x17 * x23)) v6 x25 oM26 g27 H.size) (cwV 3 hts gX7_arc_X7_comesIfFree rfl rfl rfl hd_X7_comesIfFree ⟨Nat.le_of_ble_eq_true rfl, Nat.le_of_ble_eq_true rfl⟩) fr hw hK hA hZo hZ (ci := 7) rfl rfl rfl rfl hl.1 rfl (Nat.le_of_ble_eq_true rfl) dX7_arc_112 ⟨Nat.zero_le _, Nat.zero_le _⟩) fr hw hA (fun H locs hw => ?_)
          refine lv_if_eq (tgt := 122) hx hb dX7_arc_115 (by decide) (fun c28 => ?_) (fun c28 => ?_)
          · have hf := if_t c28 hf
            refine lv_iconst (v := 0) hx hb dX7_arc_122 (by decide) ?_
            refine lv_istore (lv' := [(8, .int 0), (7, .int x17), (0, .ref (o 0)), (1, .int v1), (2, .int v2), (3, .int v3), (4, .int v4), (5, .int v5), (6, .int v6)]) hx hb dX7_arc_123 hl (by decide) rfl (fun ls hl => ?_)
            refine lv_iload hx hb dX7_arc_125 (lv_at hl 7 rfl) ?_
            refine lv_iload hx hb dX7_arc_127 (lv_at hl 0 rfl) ?_
            refine lv_if_eq (tgt := 136) hx hb dX7_arc_129 (by decide) (fun c29 => ?_) (fun c29 => ?_)
            rotate_left
            · exact absurd c29 (by decide)
            refine lv_iconst (v := 0) hx hb dX7_arc_136 (by decide) ?_
            refine lv_iadd hx hb dX7_arc_137 ?_
            refine lv_istore (lv' := [(5, .int (v5 + 0)), (8, .int 0), (7, .int x17), (0, .ref (o 0)), (1, .int v1), (2, .int v2), (3, .int v3), (4, .int v4), (6, .int v6)]) hx hb dX7_arc_138 hl (by decide) rfl (fun ls hl => ?_)
            refine lv_iinc (v := v6 + 1) (lv' := [(6, .int (v6 + 1)), (5, .int (v5 + 0)), (8, .int 0), (7, .int x17), (0, .ref (o 0)), (1, .int v1), (2, .int v2), (3, .int v3), (4, .int v4)]) hx hb dX7_arc_140 hl (k := 8) rfl (by rfl) (by decide) rfl (fun ls hl => ?_)
            refine lv_goto (tgt := 63) hx hb dX7_arc_143 (by decide) ?_
            exact ih (v5 + 0) (v6 + 1) oM26 hf H locs ls hw (lv_sub hl [4, 5, 6, 7, 8, 1, 0] rfl)
          · have hf := if_f c28 hf
            refine lv_iconst (v := 1) hx hb dX7_arc_118 (by decide) ?_
            refine lv_goto (tgt := 123) hx hb dX7_arc_119 (by decide) ?_
            refine lv_istore (lv' := [(8, .int 1), (7, .int x17), (0, .ref (o 0)), (1, .int v1), (2, .int v2), (3, .int v3), (4, .int v4), (5, .int v5), (6, .int v6)]) hx hb dX7_arc_123 hl (by decide) rfl (fun ls hl => ?_)
            refine lv_iload hx hb dX7_arc_125 (lv_at hl 7 rfl) ?_
            refine lv_iload hx hb dX7_arc_127 (lv_at hl 0 rfl) ?_
            refine lv_if_eq (tgt := 136) hx hb dX7_arc_129 (by decide) (fun c30 => ?_) (fun c30 => ?_)
            · exact absurd c30 (by decide)
            refine lv_iconst (v := 1) hx hb dX7_arc_132 (by decide) ?_
            refine lv_goto (tgt := 137) hx hb dX7_arc_133 (by decide) ?_
            refine lv_iadd hx hb dX7_arc_137 ?_
            refine lv_istore (lv' := [(5, .int (v5 + 1)), (8, .int 1), (7, .int x17), (0, .ref (o 0)), (1, .int v1), (2, .int v2), (3, .int v3), (4, .int v4), (6, .int v6)]) hx hb dX7_arc_138 hl (by decide) rfl (fun ls hl => ?_)
            refine lv_iinc (v := v6 + 1) (lv' := [(6, .int (v6 + 1)), (5, .int (v5 + 1)), (8, .int 1), (7, .int x17), (0, .ref (o 0)), (1, .int v1), (2, .int v2), (3, .int v3), (4, .int v4)]) hx hb dX7_arc_140 hl (k := 8) rfl (by rfl) (by decide) rfl (fun ls hl => ?_)
            refine lv_goto (tgt := 63) hx hb dX7_arc_143 (by decide) ?_
            exact ih (v5 + 1) (v6 + 1) oM26 hf H locs ls hw (lv_sub hl [4, 5, 6, 7, 8, 1, 0] rfl)
  unfold f_X7_arc at hf
  obtain ⟨H, hH⟩ : ∃ H, H = s.heap := ⟨_, rfl⟩
  obtain ⟨locs, hlc⟩ : ∃ locs : List Loc, locs = [] := ⟨_, rfl⟩
  have hw : Wd D A s.heap H locs (wX7 o cA oM) := by rw [hH, hlc]; exact hw
  have goal : W p l e rmX7_arc s m ([.ref (o 0), .int a1, .int a2, .int a3, .int a4] : List Value).toArray below meth c H locs 0 0 Q (F0 m 0 ls []) := by
    clear hH hlc
    refine lv_aload_n hx hb dX7_arc_0 rfl (lv_at hl 0 rfl) ?_
    obtain ⟨x1, g2, hf⟩ := bn1_e hf
    have fr := fr_X7_X7_oM o cA oM oM
    refine go_i (run_v (As := []) (rest := []) ⟨hx, hb, hml, hown, hts⟩ (k_X7_isSheet l D cA o oM x1 g2 H.size) (cwV 0 hts gX7_arc_X7_isSheet rfl rfl rfl hd_X7_isSheet ⟨Nat.le_of_ble_eq_true rfl, Nat.le_of_ble_eq_true rfl⟩) fr hw hK hA hZo hZ (ci := 7) rfl rfl rfl rfl hl.1 rfl (Nat.le_of_ble_eq_true rfl) dX7_arc_1 ⟨Nat.zero_le _, Nat.zero_le _⟩) fr hw hA (fun H locs hw => ?_)
    refine lv_if_ne (tgt := 10) hx hb dX7_arc_4 (by decide) (fun c3 => ?_) (fun c3 => ?_)
    · have hf := if_f c3 hf
      refine lv_iload_n hx hb dX7_arc_10 rfl (lv_at hl 1 rfl) ?_
      refine lv_bipush (v := (-31)) hx hb dX7_arc_11 (by decide) ?_
      refine lv_bipush (v := 62) hx hb dX7_arc_13 (by decide) ?_
      obtain ⟨x4, g5, hf⟩ := bn1_e hf
      have fr := fr_X7_S o cA oM
      refine go_i (run_s (As := [.int a1, .int ((-31)), .int 62]) (rest := []) ⟨hx, hb, hml, hown, hts⟩ (k_X7_within l D cA a1 ((-31)) 62 x4 g5 H.size) (va_cwS 3 hts gX7_arc_X7_within rfl rfl rfl hd_X7_within ⟨Nat.le_of_ble_eq_true rfl, Nat.le_of_ble_eq_true rfl⟩) fr hw hK hA rfl hl.1 rfl (Nat.le_of_ble_eq_true rfl) dX7_arc_15 ⟨Nat.zero_le _, Nat.zero_le _⟩) fr hw hA (fun H locs hw => ?_)
      refine lv_if_eq (tgt := 54) hx hb dX7_arc_18 (by decide) (fun c6 => ?_) (fun c6 => ?_)
      · have hf := if_t c6 hf
        refine lv_bipush (v := (-102)) hx hb dX7_arc_54 (by decide) ?_
        obtain ⟨e0_, e1_⟩ := sm2 hf
        exact hret _ _ _ _ _ (by rw [← e1_]; exact hw) e0_ (Or.inl rfl) dX7_arc_56
      · have hf := if_f c6 hf
        refine lv_iload_n hx hb dX7_arc_21 rfl (lv_at hl 2 rfl) ?_
        refine lv_bipush (v := (-31)) hx hb dX7_arc_22 (by decide) ?_
        refine lv_bipush (v := 62) hx hb dX7_arc_24 (by decide) ?_
        obtain ⟨x7, g8, hf⟩ := bn1_e hf
        have fr := fr_X7_S o cA oM
        refine go_i (run_s (As := [.int a2, .int ((-31)), .int 62]) (rest := []) ⟨hx, hb, hml, hown, hts⟩ (k_X7_within l D cA a2 ((-31)) 62 x7 g8 H.size) (va_cwS 3 hts gX7_arc_X7_within rfl rfl rfl hd_X7_within ⟨Nat.le_of_ble_eq_true rfl, Nat.le_of_ble_eq_true rfl⟩) fr hw hK hA rfl hl.1 rfl (Nat.le_of_ble_eq_true rfl) dX7_arc_26 ⟨Nat.zero_le _, Nat.zero_le _⟩) fr hw hA (fun H locs hw => ?_)
        refine lv_if_eq (tgt := 54) hx hb dX7_arc_29 (by decide) (fun c9 => ?_) (fun c9 => ?_)
        · have hf := if_t c9 hf
          refine lv_bipush (v := (-102)) hx hb dX7_arc_54 (by decide) ?_
          obtain ⟨e0_, e1_⟩ := sm2 hf
          exact hret _ _ _ _ _ (by rw [← e1_]; exact hw) e0_ (Or.inl rfl) dX7_arc_56
        · have hf := if_f c9 hf
          refine lv_iload_n hx hb dX7_arc_32 rfl (lv_at hl 3 rfl) ?_
          refine lv_iconst (v := 1) hx hb dX7_arc_33 (by decide) ?_
          refine lv_bipush (v := 31) hx hb dX7_arc_34 (by decide) ?_
          obtain ⟨x10, g11, hf⟩ := bn1_e hf
          have fr := fr_X7_S o cA oM
          refine go_i (run_s (As := [.int a3, .int 1, .int 31]) (rest := []) ⟨hx, hb, hml, hown, hts⟩ (k_X7_within l D cA a3 1 31 x10 g11 H.size) (va_cwS 3 hts gX7_arc_X7_within rfl rfl rfl hd_X7_within ⟨Nat.le_of_ble_eq_true rfl, Nat.le_of_ble_eq_true rfl⟩) fr hw hK hA rfl hl.1 rfl (Nat.le_of_ble_eq_true rfl) dX7_arc_36 ⟨Nat.zero_le _, Nat.zero_le _⟩) fr hw hA (fun H locs hw => ?_)
          refine lv_if_eq (tgt := 54) hx hb dX7_arc_39 (by decide) (fun c12 => ?_) (fun c12 => ?_)
          · have hf := if_t c12 hf
            refine lv_bipush (v := (-102)) hx hb dX7_arc_54 (by decide) ?_
            obtain ⟨e0_, e1_⟩ := sm2 hf
            exact hret _ _ _ _ _ (by rw [← e1_]; exact hw) e0_ (Or.inl rfl) dX7_arc_56
          · have hf := if_f c12 hf
            refine lv_iload hx hb dX7_arc_42 (lv_at hl 4 rfl) ?_
            refine lv_iconst (v := 0) hx hb dX7_arc_44 (by decide) ?_
            refine lv_sipush (v := 255) hx hb dX7_arc_45 (by decide) ?_
            obtain ⟨x13, g14, hf⟩ := bn1_e hf
            have fr := fr_X7_S o cA oM
            refine go_i (run_s (As := [.int a4, .int 0, .int 255]) (rest := []) ⟨hx, hb, hml, hown, hts⟩ (k_X7_within l D cA a4 0 255 x13 g14 H.size) (va_cwS 3 hts gX7_arc_X7_within rfl rfl rfl hd_X7_within ⟨Nat.le_of_ble_eq_true rfl, Nat.le_of_ble_eq_true rfl⟩) fr hw hK hA rfl hl.1 rfl (Nat.le_of_ble_eq_true rfl) dX7_arc_48 ⟨Nat.zero_le _, Nat.zero_le _⟩) fr hw hA (fun H locs hw => ?_)
            refine lv_if_ne (tgt := 57) hx hb dX7_arc_51 (by decide) (fun c15 => ?_) (fun c15 => ?_)
            · have hf := if_f c15 hf
              refine lv_iconst (v := 0) hx hb dX7_arc_57 (by decide) ?_
              refine lv_istore (lv' := [(5, .int 0), (0, .ref (o 0)), (1, .int a1), (2, .int a2), (3, .int a3), (4, .int a4)]) hx hb dX7_arc_58 hl (by decide) rfl (fun ls hl => ?_)
              refine lv_iconst (v := 0) hx hb dX7_arc_60 (by decide) ?_
              refine lv_istore (lv' := [(6, .int 0), (5, .int 0), (0, .ref (o 0)), (1, .int a1), (2, .int a2), (3, .int a3), (4, .int a4)]) hx hb dX7_arc_61 hl (by decide) rfl (fun ls hl => ?_)
              exact h_L63 a1 a2 a3 a4 _ 0 0 oM hf H locs ls hw (lv_sub hl [2, 3, 4, 5, 6, 1, 0] rfl)
            · have hf := if_t c15 hf
              refine lv_bipush (v := (-102)) hx hb dX7_arc_54 (by decide) ?_
              obtain ⟨e0_, e1_⟩ := sm2 hf
              exact hret _ _ _ _ _ (by rw [← e1_]; exact hw) e0_ (Or.inl rfl) dX7_arc_56
    · have hf := if_t c3 hf
      refine lv_bipush (v := (-103)) hx hb dX7_arc_7 (by decide) ?_
      obtain ⟨e0_, e1_⟩ := sm2 hf
      exact hret _ _ _ _ _ (by rw [← e1_]; exact hw) e0_ (Or.inl rfl) dX7_arc_9
  rw [hH, hlc] at goal
  exact goal
abbrev rmX7_drawOf : Room := { frames := 0, cells := 0, slots := 0, locals := 0 }
theorem hd_X7_drawOf : yX7_drawOf.cls = RX7 ∧ yX7_drawOf.cls ≠ "java/lang/invoke/MethodHandle" ∧ yX7_drawOf.cls ≠ "java/lang/invoke/VarHandle" ∧ (parseMethodDescriptor yX7_drawOf.desc).map (fun d => d.parameters.length) = some 1 := by decide +kernel
set_option maxHeartbeats 4000000 in
set_option maxRecDepth 100000 in
theorem k_X7_drawOf (l : Launch) (D : va_G) (cA : ClassId) (o : Nat → Nat) (oM : St) (a1 : Int32) (r : Int32) (oM' : St) (hf : f_X7_drawOf oM a1 = some (r, oM')) : Mi l yX7_drawOf wsX7_drawOf rmX7_drawOf D cA z_0 [.ref (o 0), .int a1] (wX7 o cA oM) r (wX7 o cA oM') := by
  refine Mi.of (cc := cX7_drawOf) (maxL := 2) (ret := (some .int)) (plainFor_of_name (by decide)) rfl (Nat.le_of_ble_eq_true rfl) (Or.inl rfl) ?_
  intro p e s m below meth c A Q hx hb hml hown hts hK hA hZ hret ls hl hw
  replace hown : s.vm.findClass RX7 = some m.cls := hown
  have hl : lv_has ls 2 [(0, .ref (o 0)), (1, .int a1)] := hl
  have hZo := z_0_ok
  have hi7 : ∀ w ∈ wsX70, w ∈ wsX7_drawOf := fun w h => List.mem_cons_of_mem _ (List.mem_append_right _ h)
  have q0 := hts (.constantLong RX7 183 1103515245) (by decide +kernel)
  have q1 := hts (.fieldLink RX7 185 "ArcRingsModel" "seedNow" "J") (by decide +kernel)
  have q2 := hts (.constantLong RX7 189 12345) (by decide +kernel)
  have q3 := hts (.constantLong RX7 191 2147483648) (by decide +kernel)
  have q4 := hts (.constantLong RX7 193 65536) (by decide +kernel)
  unfold f_X7_drawOf at hf
  obtain ⟨H, hH⟩ : ∃ H, H = s.heap := ⟨_, rfl⟩
  obtain ⟨locs, hlc⟩ : ∃ locs : List Loc, locs = [] := ⟨_, rfl⟩
  have hw : Wd D A s.heap H locs (wX7 o cA oM) := by rw [hH, hlc]; exact hw
  have goal : W p l e rmX7_drawOf s m ([.ref (o 0), .int a1] : List Value).toArray below meth c H locs 0 0 Q (F0 m 0 ls []) := by
    clear hH hlc
    refine lv_aload_n hx hb dX7_drawOf_0 rfl (lv_at hl 0 rfl) ?_
    refine lv_ldc2 hx hb hown q0 dX7_drawOf_1 ?_
    refine lv_aload_n hx hb dX7_drawOf_4 rfl (lv_at hl 0 rfl) ?_
    refine w_get hx hb hts hi7 hown hK hw 0 rfl rfl 29 (by decide) q1 rfl (v := .long (oM.2.1 29)) rfl dX7_drawOf_5 ?_
    refine lv_lmul hx hb dX7_drawOf_8 ?_
    refine lv_ldc2 hx hb hown q2 dX7_drawOf_9 ?_
    refine lv_ladd hx hb dX7_drawOf_12 ?_
    refine lv_ldc2 hx hb hown q3 dX7_drawOf_13 ?_
    refine lv_lrem hx hb dX7_drawOf_16 (by decide) ?_
    obtain ⟨y1, e2, hf⟩ := bn1_e hf
    refine w_nml (sm1 e2) ?_
    refine w_put (ws' := (wX7 o cA ((sL oM 29 y1)))) hx hb hts hi7 tyX7 tyX7_ok nmX7 hown hK hw 0 rfl rfl 29 (by decide) q1 rfl rfl rfl rfl (Nat.le_of_ble_eq_true rfl) rfl dX7_drawOf_17 (fun H locs hw => ?_)
    refine lv_aload_n hx hb dX7_drawOf_20 rfl (lv_at hl 0 rfl) ?_
    refine w_get hx hb hts hi7 hown hK hw 0 rfl rfl 29 (by decide) q1 rfl (v := .long y1) rfl dX7_drawOf_21 ?_
    refine lv_ldc2 hx hb hown q4 dX7_drawOf_24 ?_
    refine lv_ldiv hx hb dX7_drawOf_27 (by decide) ?_
    refine lv_iload_n hx hb dX7_drawOf_28 rfl (lv_at hl 1 rfl) ?_
    refine lv_i2l (v := (a1 : Int32).toInt64) hx hb dX7_drawOf_29 rfl ?_
    obtain ⟨n3, hf⟩ := if_n hf
    refine lv_lrem hx hb dX7_drawOf_30 n3 ?_
    refine lv_l2i (v := ((y1 / 65536) - (y1 / 65536) / ((a1 : Int32).toInt64) * ((a1 : Int32).toInt64) : Int64).toInt32) hx hb dX7_drawOf_31 rfl ?_
    obtain ⟨e0_, e1_⟩ := sm2 hf
    exact hret _ _ _ _ _ (by rw [← e1_]; exact hw) e0_ (Or.inl rfl) dX7_drawOf_32
  rw [hH, hlc] at goal
  exact goal
abbrev rmX7_strew : Room := { frames := 3, cells := 0, slots := 0, locals := 68 }
theorem hd_X7_strew : yX7_strew.cls = RX7 ∧ yX7_strew.cls ≠ "java/lang/invoke/MethodHandle" ∧ yX7_strew.cls ≠ "java/lang/invoke/VarHandle" ∧ (parseMethodDescriptor yX7_strew.desc).map (fun d => d.parameters.length) = some 2 := by decide +kernel
set_option maxHeartbeats 4000000 in
set_option maxRecDepth 100000 in
theorem k_X7_strew (l : Launch) (D : va_G) (cA : ClassId) (o : Nat → Nat) (oM : St) (a1 : Int32) (a2 : Int32) (r : Int32) (oM' : St) (hf : f_X7_strew oM a1 a2 = some (r, oM')) : Mi l yX7_strew wsX7_strew rmX7_strew D cA z_0 [.ref (o 0), .int a1, .int a2] (wX7 o cA oM) r (wX7 o cA oM') := by
  refine Mi.of (cc := cX7_strew) (maxL := 8) (ret := (some .int)) (plainFor_of_name (by decide)) rfl (Nat.le_of_ble_eq_true rfl) (Or.inl rfl) ?_
  intro p e s m below meth c A Q hx hb hml hown hts hK hA hZ hret ls hl hw
  replace hown : s.vm.findClass RX7 = some m.cls := hown
  have hl : lv_has ls 8 [(0, .ref (o 0)), (1, .int a1), (2, .int a2)] := hl
  have hZo := z_0_ok
  have hi7 : ∀ w ∈ wsX70, w ∈ wsX7_strew := fun w h => List.mem_cons_of_mem _ (List.mem_append_right _ h)
  have q0 := hts (.fieldLink RX7 185 "ArcRingsModel" "seedNow" "J") (by decide +kernel)
  have q1 := hts (.fieldLink RX7 115 "ArcRingsModel" "wide" "I") (by decide +kernel)
  have q2 := hts (.fieldLink RX7 118 "ArcRingsModel" "high" "I") (by decide +kernel)
  have h_L38 : ∀ (v1 : Int32), ∀ (n : Nat) (v3 : Int32) (v4 : Int32) (oM : St), f_X7_strew_L38 v1 n v3 v4 oM = some (r, oM') → ∀ (H : Heap) (locs : List Loc) (ls : Array Slot), Wd D A s.heap H locs (wX7 o cA oM) → lv_has ls 8 [(0, .ref (o 0)), (1, .int v1), (3, .int v3), (4, .int v4)] → W p l e rmX7_strew s m ([.ref (o 0), .int a1, .int a2] : List Value).toArray below meth c H locs 0 0 Q (F0 m 38 ls []) := by
    intro v1 n
    induction n with
    | zero =>
      intro v3 v4 oM hf
      have hf : none = some (r, oM') := hf
      cases hf
    | succ n ih =>
      intro v3 v4 oM hf H locs ls hw hl
      have hf := (f_X7_strew_L38_s v1 n v3 v4 oM).symm.trans hf
      refine lv_iload hx hb dX7_strew_38 (lv_at hl 3 rfl) ?_
      refine lv_iload_n hx hb dX7_strew_40 rfl (lv_at hl 1 rfl) ?_
      refine lv_icmp_ge (tgt := 110) hx hb dX7_strew_41 (by decide) (fun c8 => ?_) (fun c8 => ?_)
      · have hf := if_t c8 hf
        refine lv_iload_n hx hb dX7_strew_110 rfl (lv_at hl 2 rfl) ?_
        obtain ⟨e0_, e1_⟩ := sm2 hf
        exact hret _ _ _ _ _ (by rw [← e1_]; exact hw) e0_ (Or.inl rfl) dX7_strew_111
      · have hf := if_f c8 hf
        refine lv_aload_n hx hb dX7_strew_44 rfl (lv_at hl 0 rfl) ?_
        refine lv_aload_n hx hb dX7_strew_45 rfl (lv_at hl 0 rfl) ?_
        refine w_get hx hb hts hi7 hown hK hw 0 rfl rfl 2 (by decide) q1 rfl (v := .int (oM.1 2)) rfl dX7_strew_46 ?_
        obtain ⟨x9, oM10, g11, hf⟩ := bn2_e hf
        have fr := fr_X7_X7_oM o cA oM oM10
        refine go_i (run_v (As := [.int (oM.1 2)]) (rest := []) ⟨hx, hb, hml, hown, hts⟩ (k_X7_drawOf l D cA o oM (oM.1 2) x9 oM10 g11 H.size) (cwV 1 hts gX7_strew_X7_drawOf rfl rfl rfl hd_X7_drawOf ⟨Nat.le_of_ble_eq_true rfl, Nat.le_of_ble_eq_true rfl⟩) fr hw hK hA hZo hZ (ci := 7) rfl rfl rfl rfl hl.1 rfl (Nat.le_of_ble_eq_true rfl) dX7_strew_49 ⟨Nat.zero_le _, Nat.zero_le _⟩) fr hw hA (fun H locs hw => ?_)
        refine lv_istore (lv' := [(5, .int x9), (0, .ref (o 0)), (1, .int v1), (3, .int v3), (4, .int v4)]) hx hb dX7_strew_52 hl (by decide) rfl (fun ls hl => ?_)
        refine lv_aload_n hx hb dX7_strew_54 rfl (lv_at hl 1 rfl) ?_
        refine lv_aload_n hx hb dX7_strew_55 rfl (lv_at hl 1 rfl) ?_
        refine w_get hx hb hts hi7 hown hK hw 0 rfl rfl 3 (by decide) q2 rfl (v := .int (oM10.1 3)) rfl dX7_strew_56 ?_
        obtain ⟨x12, oM13, g14, hf⟩ := bn2_e hf
        have fr := fr_X7_X7_oM o cA oM10 oM13
        refine go_i (run_v (As := [.int (oM10.1 3)]) (rest := []) ⟨hx, hb, hml, hown, hts⟩ (k_X7_drawOf l D cA o oM10 (oM10.1 3) x12 oM13 g14 H.size) (cwV 1 hts gX7_strew_X7_drawOf rfl rfl rfl hd_X7_drawOf ⟨Nat.le_of_ble_eq_true rfl, Nat.le_of_ble_eq_true rfl⟩) fr hw hK hA hZo hZ (ci := 7) rfl rfl rfl rfl hl.1 rfl (Nat.le_of_ble_eq_true rfl) dX7_strew_59 ⟨Nat.zero_le _, Nat.zero_le _⟩) fr hw hA (fun H locs hw => ?_)
        refine lv_istore (lv' := [(6, .int x12), (5, .int x9), (0, .ref (o 0)), (1, .int v1), (3, .int v3), (4, .int v4)]) hx hb dX7_strew_62 hl (by decide) rfl (fun ls hl => ?_)
        refine lv_aload_n hx hb dX7_strew_64 rfl (lv_at hl 2 rfl) ?_
        refine lv_bipush (v := 9) hx hb dX7_strew_65 (by decide) ?_
        obtain ⟨x15, oM16, g17, hf⟩ := bn2_e hf
        have fr := fr_X7_X7_oM o cA oM13 oM16
        refine go_i (run_v (As := [.int 9]) (rest := []) ⟨hx, hb, hml, hown, hts⟩ (k_X7_drawOf l D cA o oM13 9 x15 oM16 g17 H.size) (cwV 1 hts gX7_strew_X7_drawOf rfl rfl rfl hd_X7_drawOf ⟨Nat.le_of_ble_eq_true rfl, Nat.le_of_ble_eq_true rfl⟩) fr hw hK hA hZo hZ (ci := 7) rfl rfl rfl rfl hl.1 rfl (Nat.le_of_ble_eq_true rfl) dX7_strew_67 ⟨Nat.zero_le _, Nat.zero_le _⟩) fr hw hA (fun H locs hw => ?_)
        refine lv_istore (lv' := [(7, .int x15), (6, .int x12), (5, .int x9), (0, .ref (o 0)), (1, .int v1), (3, .int v3), (4, .int v4)]) hx hb dX7_strew_70 hl (by decide) rfl (fun ls hl => ?_)
        refine lv_iload_n hx hb dX7_strew_72 rfl (lv_at hl 5 rfl) ?_
        refine lv_aload_n hx hb dX7_strew_73 rfl (lv_at hl 3 rfl) ?_
        refine lv_iload hx hb dX7_strew_74 (lv_at hl 2 rfl) ?_
        refine lv_iload hx hb dX7_strew_76 (lv_at hl 1 rfl) ?_
        refine lv_iload hx hb dX7_strew_78 (lv_at hl 0 rfl) ?_
        refine lv_bipush (v := 8) hx hb dX7_strew_80 (by decide) ?_
        refine lv_icmp_ne (tgt := 89) hx hb dX7_strew_82 (by decide) (fun c18 => ?_) (fun c18 => ?_)
        · have hf := if_f c18 hf
          refine lv_iload hx hb dX7_strew_89 (lv_at hl 0 rfl) ?_
          obtain ⟨x19, oM20, g21, hf⟩ := bn2_e hf
          have fr := fr_X7_X7_oM o cA oM16 oM20
          refine go_i (run_v (As := [.int x9, .int x12, .int x15]) (rest := [.int v3]) ⟨hx, hb, hml, hown, hts⟩ (k_X7_comesIfFree l D cA o oM16 x9 x12 x15 x19 oM20 g21 H.size) (cwV 3 hts gX7_strew_X7_comesIfFree rfl rfl rfl hd_X7_comesIfFree ⟨Nat.le_of_ble_eq_true rfl, Nat.le_of_ble_eq_true rfl⟩) fr hw hK hA hZo hZ (ci := 7) rfl rfl rfl rfl hl.1 rfl (Nat.le_of_ble_eq_true rfl) dX7_strew_91 ⟨Nat.zero_le _, Nat.zero_le _⟩) fr hw hA (fun H locs hw => ?_)
          refine lv_if_eq (tgt := 101) hx hb dX7_strew_94 (by decide) (fun c22 => ?_) (fun c22 => ?_)
          · have hf := if_t c22 hf
            refine lv_iconst (v := 0) hx hb dX7_strew_101 (by decide) ?_
            refine lv_iadd hx hb dX7_strew_102 ?_
            refine lv_istore_n (lv' := [(3, .int (v3 + 0)), (7, .int x15), (6, .int x12), (5, .int x9), (0, .ref (o 0)), (1, .int v1), (4, .int v4)]) hx hb dX7_strew_103 rfl hl (by decide) rfl (fun ls hl => ?_)
            refine lv_iinc (v := v4 + 1) (lv' := [(4, .int (v4 + 1)), (3, .int (v3 + 0)), (7, .int x15), (6, .int x12), (5, .int x9), (0, .ref (o 0)), (1, .int v1)]) hx hb dX7_strew_104 hl (k := 6) rfl (by rfl) (by decide) rfl (fun ls hl => ?_)
            refine lv_goto (tgt := 38) hx hb dX7_strew_107 (by decide) ?_
            exact ih (v3 + 0) (v4 + 1) oM20 hf H locs ls hw (lv_sub hl [5, 6, 1, 0] rfl)
          · have hf := if_f c22 hf
            refine lv_iconst (v := 1) hx hb dX7_strew_97 (by decide) ?_
            refine lv_goto (tgt := 102) hx hb dX7_strew_98 (by decide) ?_
            refine lv_iadd hx hb dX7_strew_102 ?_
            refine lv_istore_n (lv' := [(3, .int (v3 + 1)), (7, .int x15), (6, .int x12), (5, .int x9), (0, .ref (o 0)), (1, .int v1), (4, .int v4)]) hx hb dX7_strew_103 rfl hl (by decide) rfl (fun ls hl => ?_)
            refine lv_iinc (v := v4 + 1) (lv' := [(4, .int (v4 + 1)), (3, .int (v3 + 1)), (7, .int x15), (6, .int x12), (5, .int x9), (0, .ref (o 0)), (1, .int v1)]) hx hb dX7_strew_104 hl (k := 6) rfl (by rfl) (by decide) rfl (fun ls hl => ?_)
            refine lv_goto (tgt := 38) hx hb dX7_strew_107 (by decide) ?_
            exact ih (v3 + 1) (v4 + 1) oM20 hf H locs ls hw (lv_sub hl [5, 6, 1, 0] rfl)
        · have hf := if_t c18 hf
          refine lv_iconst (v := (-1)) hx hb dX7_strew_85 (by decide) ?_
          refine lv_goto (tgt := 91) hx hb dX7_strew_86 (by decide) ?_
          obtain ⟨x23, oM24, g25, hf⟩ := bn2_e hf
          have fr := fr_X7_X7_oM o cA oM16 oM24
          refine go_i (run_v (As := [.int x9, .int x12, .int ((-1))]) (rest := [.int v3]) ⟨hx, hb, hml, hown, hts⟩ (k_X7_comesIfFree l D cA o oM16 x9 x12 ((-1)) x23 oM24 g25 H.size) (cwV 3 hts gX7_strew_X7_comesIfFree rfl rfl rfl hd_X7_comesIfFree ⟨Nat.le_of_ble_eq_true rfl, Nat.le_of_ble_eq_true rfl⟩) fr hw hK hA hZo hZ (ci := 7) rfl rfl rfl rfl hl.1 rfl (Nat.le_of_ble_eq_true rfl) dX7_strew_91 ⟨Nat.zero_le _, Nat.zero_le _⟩) fr hw hA (fun H locs hw => ?_)
          refine lv_if_eq (tgt := 101) hx hb dX7_strew_94 (by decide) (fun c26 => ?_) (fun c26 => ?_)
          · have hf := if_t c26 hf
            refine lv_iconst (v := 0) hx hb dX7_strew_101 (by decide) ?_
            refine lv_iadd hx hb dX7_strew_102 ?_
            refine lv_istore_n (lv' := [(3, .int (v3 + 0)), (7, .int x15), (6, .int x12), (5, .int x9), (0, .ref (o 0)), (1, .int v1), (4, .int v4)]) hx hb dX7_strew_103 rfl hl (by decide) rfl (fun ls hl => ?_)
            refine lv_iinc (v := v4 + 1) (lv' := [(4, .int (v4 + 1)), (3, .int (v3 + 0)), (7, .int x15), (6, .int x12), (5, .int x9), (0, .ref (o 0)), (1, .int v1)]) hx hb dX7_strew_104 hl (k := 6) rfl (by rfl) (by decide) rfl (fun ls hl => ?_)
            refine lv_goto (tgt := 38) hx hb dX7_strew_107 (by decide) ?_
            exact ih (v3 + 0) (v4 + 1) oM24 hf H locs ls hw (lv_sub hl [5, 6, 1, 0] rfl)
          · have hf := if_f c26 hf
            refine lv_iconst (v := 1) hx hb dX7_strew_97 (by decide) ?_
            refine lv_goto (tgt := 102) hx hb dX7_strew_98 (by decide) ?_
            refine lv_iadd hx hb dX7_strew_102 ?_
            refine lv_istore_n (lv' := [(3, .int (v3 + 1)), (7, .int x15), (6, .int x12), (5, .int x9), (0, .ref (o 0)), (1, .int v1), (4, .int v4)]) hx hb dX7_strew_103 rfl hl (by decide) rfl (fun ls hl => ?_)
            refine lv_iinc (v := v4 + 1) (lv' := [(4, .int (v4 + 1)), (3, .int (v3 + 1)), (7, .int x15), (6, .int x12), (5, .int x9), (0, .ref (o 0)), (1, .int v1)]) hx hb dX7_strew_104 hl (k := 6) rfl (by rfl) (by decide) rfl (fun ls hl => ?_)
            refine lv_goto (tgt := 38) hx hb dX7_strew_107 (by decide) ?_
            exact ih (v3 + 1) (v4 + 1) oM24 hf H locs ls hw (lv_sub hl [5, 6, 1, 0] rfl)
  unfold f_X7_strew at hf
  obtain ⟨H, hH⟩ : ∃ H, H = s.heap := ⟨_, rfl⟩
  obtain ⟨locs, hlc⟩ : ∃ locs : List Loc, locs = [] := ⟨_, rfl⟩
  have hw : Wd D A s.heap H locs (wX7 o cA oM) := by rw [hH, hlc]; exact hw
  have goal : W p l e rmX7_strew s m ([.ref (o 0), .int a1, .int a2] : List Value).toArray below meth c H locs 0 0 Q (F0 m 0 ls []) := by
    clear hH hlc
    refine lv_aload_n hx hb dX7_strew_0 rfl (lv_at hl 0 rfl) ?_
    obtain ⟨x1, g2, hf⟩ := bn1_e hf
    have fr := fr_X7_X7_oM o cA oM oM
    refine go_i (run_v (As := []) (rest := []) ⟨hx, hb, hml, hown, hts⟩ (k_X7_isSheet l D cA o oM x1 g2 H.size) (cwV 0 hts gX7_strew_X7_isSheet rfl rfl rfl hd_X7_isSheet ⟨Nat.le_of_ble_eq_true rfl, Nat.le_of_ble_eq_true rfl⟩) fr hw hK hA hZo hZ (ci := 7) rfl rfl rfl rfl hl.1 rfl (Nat.le_of_ble_eq_true rfl) dX7_strew_1 ⟨Nat.zero_le _, Nat.zero_le _⟩) fr hw hA (fun H locs hw => ?_)
    refine lv_if_ne (tgt := 10) hx hb dX7_strew_4 (by decide) (fun c3 => ?_) (fun c3 => ?_)
    · have hf := if_f c3 hf
      refine lv_iload_n hx hb dX7_strew_10 rfl (lv_at hl 1 rfl) ?_
      refine lv_iconst (v := 1) hx hb dX7_strew_11 (by decide) ?_
      refine lv_bipush (v := 14) hx hb dX7_strew_12 (by decide) ?_
      obtain ⟨x4, g5, hf⟩ := bn1_e hf
      have fr := fr_X7_S o cA oM
      refine go_i (run_s (As := [.int a1, .int 1, .int 14]) (rest := []) ⟨hx, hb, hml, hown, hts⟩ (k_X7_within l D cA a1 1 14 x4 g5 H.size) (va_cwS 3 hts gX7_strew_X7_within rfl rfl rfl hd_X7_within ⟨Nat.le_of_ble_eq_true rfl, Nat.le_of_ble_eq_true rfl⟩) fr hw hK hA rfl hl.1 rfl (Nat.le_of_ble_eq_true rfl) dX7_strew_14 ⟨Nat.zero_le _, Nat.zero_le _⟩) fr hw hA (fun H locs hw => ?_)
      refine lv_if_eq (tgt := 24) hx hb dX7_strew_17 (by decide) (fun c6 => ?_) (fun c6 => ?_)
      · have hf := if_t c6 hf
        refine lv_bipush (v := (-102)) hx hb dX7_strew_24 (by decide) ?_
        obtain ⟨e0_, e1_⟩ := sm2 hf
        exact hret _ _ _ _ _ (by rw [← e1_]; exact hw) e0_ (Or.inl rfl) dX7_strew_26
      · have hf := if_f c6 hf
        refine lv_iload_n hx hb dX7_strew_20 rfl (lv_at hl 2 rfl) ?_
        refine lv_if_ge (tgt := 27) hx hb dX7_strew_21 (by decide) (fun c7 => ?_) (fun c7 => ?_)
        · have hf := if_t c7 hf
          refine lv_aload_n hx hb dX7_strew_27 rfl (lv_at hl 0 rfl) ?_
          refine lv_iload_n hx hb dX7_strew_28 rfl (lv_at hl 2 rfl) ?_
          refine lv_i2l (v := (a2 : Int32).toInt64) hx hb dX7_strew_29 rfl ?_
          refine w_put (ws' := (wX7 o cA ((sL oM 29 ((a2 : Int32).toInt64))))) hx hb hts hi7 tyX7 tyX7_ok nmX7 hown hK hw 0 rfl rfl 29 (by decide) q0 rfl rfl rfl rfl (Nat.le_of_ble_eq_true rfl) rfl dX7_strew_30 (fun H locs hw => ?_)
          refine lv_iconst (v := 0) hx hb dX7_strew_33 (by decide) ?_
          refine lv_istore_n (lv' := [(3, .int 0), (0, .ref (o 0)), (1, .int a1), (2, .int a2)]) hx hb dX7_strew_34 rfl hl (by decide) rfl (fun ls hl => ?_)
          refine lv_iconst (v := 0) hx hb dX7_strew_35 (by decide) ?_
          refine lv_istore (lv' := [(4, .int 0), (3, .int 0), (0, .ref (o 0)), (1, .int a1), (2, .int a2)]) hx hb dX7_strew_36 hl (by decide) rfl (fun ls hl => ?_)
          exact h_L38 a1 _ 0 0 ((sL oM 29 ((a2 : Int32).toInt64))) hf H locs ls hw (lv_sub hl [2, 3, 1, 0] rfl)
        · have hf := if_f c7 hf
          refine lv_bipush (v := (-102)) hx hb dX7_strew_24 (by decide) ?_
          obtain ⟨e0_, e1_⟩ := sm2 hf
          exact hret _ _ _ _ _ (by rw [← e1_]; exact hw) e0_ (Or.inl rfl) dX7_strew_26
    · have hf := if_t c3 hf
      refine lv_bipush (v := (-103)) hx hb dX7_strew_7 (by decide) ?_
      obtain ⟨e0_, e1_⟩ := sm2 hf
      exact hret _ _ _ _ _ (by rw [← e1_]; exact hw) e0_ (Or.inl rfl) dX7_strew_9
  rw [hH, hlc] at goal
  exact goal
