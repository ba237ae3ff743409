abbrev rmX7_ringOf : Room := { frames := 0, cells := 0, slots := 0, locals := 0 }
theorem hd_X7_ringOf : yX7_ringOf.cls = RX7 ∧ yX7_ringOf.cls ≠ "java/lang/invoke/MethodHandle" ∧ yX7_ringOf.cls ≠ "java/lang/invoke/VarHandle" ∧ (parseMethodDescriptor yX7_ringOf.desc).map (fun d => d.parameters.length) = some 1 := by decide +kernel
set_option maxHeartbeats 4000000 in
set_option maxRecDepth 100000 in
theorem k_X7_ringOf (l : Launch) (D : va_G) (cA : ClassId) (o : Nat → Nat) (oM : St) (a1 : Int32) (r : Int32) (hf : f_X7_ringOf oM a1 = some (r)) : Mi l yX7_ringOf wsX7_ringOf rmX7_ringOf D cA z_0 [.ref (o 0), .int a1] (wX7 o cA oM) r (wX7 o cA oM) := by
  refine Mi.of (cc := cX7_ringOf) (maxL := 2) (ret := (some .int)) (plainFor_of_name (by decide)) rfl (Nat.le_of_ble_eq_true rfl) (Or.inl rfl) ?_
  intro p e s m below meth c A Q hx hb hml hown hts hK hA hZ hret ls hl hw
  replace hown : s.vm.findClass RX7 = some m.cls := hown
  have hl : lv_has ls 2 [(0, .ref (o 0)), (1, .int a1)] := hl
  have hZo := z_0_ok
  have hi7 : ∀ w ∈ wsX70, w ∈ wsX7_ringOf := fun w h => List.mem_cons_of_mem _ (List.mem_append_right _ h)
  have q0 := hts (.fieldLink RX7 124 "ArcRingsModel" "isHunted" "Z") (by decide +kernel)
  have q1 := hts (.fieldLink RX7 34 "ArcRingsModel" "ownRing" "[I") (by decide +kernel)
  unfold f_X7_ringOf at hf
  obtain ⟨H, hH⟩ : ∃ H, H = s.heap := ⟨_, rfl⟩
  obtain ⟨locs, hlc⟩ : ∃ locs : List Loc, locs = [] := ⟨_, rfl⟩
  have hw : Wd D A s.heap H locs (wX7 o cA oM) := by rw [hH, hlc]; exact hw
  have goal : W p l e rmX7_ringOf s m ([.ref (o 0), .int a1] : List Value).toArray below meth c H locs 0 0 Q (F0 m 0 ls []) := by
    clear hH hlc
    refine lv_aload_n hx hb dX7_ringOf_0 rfl (lv_at hl 0 rfl) ?_
    refine w_get hx hb hts hi7 hown hK hw 0 rfl rfl 10 (by decide) q0 rfl (v := .int (oM.1 10)) rfl dX7_ringOf_1 ?_
    refine lv_if_eq (tgt := 16) hx hb dX7_ringOf_4 (by decide) (fun c1 => ?_) (fun c1 => ?_)
    · have hf := if_t c1 hf
      refine lv_iconst (v := (-1)) hx hb dX7_ringOf_16 (by decide) ?_
      have e0_ := sm1 hf
      exact hret _ _ _ _ _ hw e0_ (Or.inl rfl) dX7_ringOf_17
    · have hf := if_f c1 hf
      refine lv_aload_n hx hb dX7_ringOf_7 rfl (lv_at hl 0 rfl) ?_
      refine w_get hx hb hts hi7 hown hK hw 0 rfl rfl 15 (by decide) q1 rfl (v := .ref (o 9)) rfl dX7_ringOf_8 ?_
      refine lv_iload_n hx hb dX7_ringOf_11 rfl (lv_at hl 1 rfl) ?_
      obtain ⟨x2, g3, hf⟩ := bn1_e hf
      refine w_ald hx hb hK hw 9 rfl g3 dX7_ringOf_12 ?_
      refine lv_goto (tgt := 17) hx hb dX7_ringOf_13 (by decide) ?_
      have e0_ := sm1 hf
      exact hret _ _ _ _ _ hw e0_ (Or.inl rfl) dX7_ringOf_17
  rw [hH, hlc] at goal
  exact goal
abbrev rmX7_toldNow : Room := { frames := 1, cells := 0, slots := 0, locals := 21 }
theorem hd_X7_toldNow : yX7_toldNow.cls = RX7 ∧ yX7_toldNow.cls ≠ "java/lang/invoke/MethodHandle" ∧ yX7_toldNow.cls ≠ "java/lang/invoke/VarHandle" ∧ (parseMethodDescriptor yX7_toldNow.desc).map (fun d => d.parameters.length) = some 2 := by decide +kernel
set_option maxHeartbeats 4000000 in
set_option maxRecDepth 100000 in
theorem k_X7_toldNow (l : Launch) (D : va_G) (cA : ClassId) (o : Nat → Nat) (oM : St) (a1 : Int32) (a2 : Int32) (r : Int32) (hf : f_X7_toldNow oM a1 a2 = some (r)) : Mi l yX7_toldNow wsX7_toldNow rmX7_toldNow D cA z_0 [.ref (o 0), .int a1, .int a2] (wX7 o cA oM) r (wX7 o cA oM) := by
  refine Mi.of (cc := cX7_toldNow) (maxL := 3) (ret := (some .int)) (plainFor_of_name (by decide)) rfl (Nat.le_of_ble_eq_true rfl) (Or.inl rfl) ?_
  intro p e s m below meth c A Q hx hb hml hown hts hK hA hZ hret ls hl hw
  replace hown : s.vm.findClass RX7 = some m.cls := hown
  have hl : lv_has ls 3 [(0, .ref (o 0)), (1, .int a1), (2, .int a2)] := hl
  have hZo := z_0_ok
  have hi7 : ∀ w ∈ wsX70, w ∈ wsX7_toldNow := fun w h => List.mem_cons_of_mem _ (List.mem_append_right _ h)
  have q0 := hts (.fieldLink RX7 19 "ArcRingsModel" "turnOf" "[I") (by decide +kernel)
  have q1 := hts (.fieldLink RX7 16 "ArcRingsModel" "dotY" "[I") (by decide +kernel)
  have q2 := hts (.fieldLink RX7 13 "ArcRingsModel" "dotX" "[I") (by decide +kernel)
  unfold f_X7_toldNow at hf
  obtain ⟨H, hH⟩ : ∃ H, H = s.heap := ⟨_, rfl⟩
  obtain ⟨locs, hlc⟩ : ∃ locs : List Loc, locs = [] := ⟨_, rfl⟩
  have hw : Wd D A s.heap H locs (wX7 o cA oM) := by rw [hH, hlc]; exact hw
  have goal : W p l e rmX7_toldNow s m ([.ref (o 0), .int a1, .int a2] : List Value).toArray below meth c H locs 0 0 Q (F0 m 0 ls []) := by
    clear hH hlc
    refine lv_iload_n hx hb dX7_toldNow_0 rfl (lv_at hl 2 rfl) ?_
    refine lv_if_ne (tgt := 13) hx hb dX7_toldNow_1 (by decide) (fun c1 => ?_) (fun c1 => ?_)
    · have hf := if_f c1 hf
      refine lv_iload_n hx hb dX7_toldNow_13 rfl (lv_at hl 2 rfl) ?_
      refine lv_iconst (v := 1) hx hb dX7_toldNow_14 (by decide) ?_
      refine lv_icmp_ne (tgt := 27) hx hb dX7_toldNow_15 (by decide) (fun c2 => ?_) (fun c2 => ?_)
      · have hf := if_f c2 hf
        refine lv_iload_n hx hb dX7_toldNow_27 rfl (lv_at hl 2 rfl) ?_
        refine lv_iconst (v := 2) hx hb dX7_toldNow_28 (by decide) ?_
        refine lv_icmp_ne (tgt := 41) hx hb dX7_toldNow_29 (by decide) (fun c3 => ?_) (fun c3 => ?_)
        · have hf := if_f c3 hf
          refine lv_aload_n hx hb dX7_toldNow_41 rfl (lv_at hl 0 rfl) ?_
          refine lv_iload_n hx hb dX7_toldNow_42 rfl (lv_at hl 1 rfl) ?_
          obtain ⟨x4, g5, hf⟩ := bn1_e hf
          have fr := fr_X7_X7_oM o cA oM oM
          refine go_i (run_v (As := [.int a1]) (rest := []) ⟨hx, hb, hml, hown, hts⟩ (k_X7_ringOf l D cA o oM a1 x4 g5 H.size) (cwV 1 hts gX7_toldNow_X7_ringOf rfl rfl rfl hd_X7_ringOf ⟨Nat.le_of_ble_eq_true rfl, Nat.le_of_ble_eq_true rfl⟩) fr hw hK hA hZo hZ (ci := 7) rfl rfl rfl rfl hl.1 rfl (Nat.le_of_ble_eq_true rfl) dX7_toldNow_43 ⟨Nat.zero_le _, Nat.zero_le _⟩) fr hw hA (fun H locs hw => ?_)
          have e0_ := sm1 hf
          exact hret _ _ _ _ _ hw e0_ (Or.inl rfl) dX7_toldNow_46
        · have hf := if_t c3 hf
          refine lv_aload_n hx hb dX7_toldNow_32 rfl (lv_at hl 0 rfl) ?_
          refine w_get hx hb hts hi7 hown hK hw 0 rfl rfl 8 (by decide) q0 rfl (v := .ref (o 4)) rfl dX7_toldNow_33 ?_
          refine lv_iload_n hx hb dX7_toldNow_36 rfl (lv_at hl 1 rfl) ?_
          obtain ⟨x6, g7, hf⟩ := bn1_e hf
          refine w_ald hx hb hK hw 4 rfl g7 dX7_toldNow_37 ?_
          refine lv_goto (tgt := 46) hx hb dX7_toldNow_38 (by decide) ?_
          have e0_ := sm1 hf
          exact hret _ _ _ _ _ hw e0_ (Or.inl rfl) dX7_toldNow_46
      · have hf := if_t c2 hf
        refine lv_aload_n hx hb dX7_toldNow_18 rfl (lv_at hl 0 rfl) ?_
        refine w_get hx hb hts hi7 hown hK hw 0 rfl rfl 7 (by decide) q1 rfl (v := .ref (o 3)) rfl dX7_toldNow_19 ?_
        refine lv_iload_n hx hb dX7_toldNow_22 rfl (lv_at hl 1 rfl) ?_
        obtain ⟨x8, g9, hf⟩ := bn1_e hf
        refine w_ald hx hb hK hw 3 rfl g9 dX7_toldNow_23 ?_
        refine lv_goto (tgt := 46) hx hb dX7_toldNow_24 (by decide) ?_
        have e0_ := sm1 hf
        exact hret _ _ _ _ _ hw e0_ (Or.inl rfl) dX7_toldNow_46
    · have hf := if_t c1 hf
      refine lv_aload_n hx hb dX7_toldNow_4 rfl (lv_at hl 0 rfl) ?_
      refine w_get hx hb hts hi7 hown hK hw 0 rfl rfl 6 (by decide) q2 rfl (v := .ref (o 2)) rfl dX7_toldNow_5 ?_
      refine lv_iload_n hx hb dX7_toldNow_8 rfl (lv_at hl 1 rfl) ?_
      obtain ⟨x10, g11, hf⟩ := bn1_e hf
      refine w_ald hx hb hK hw 2 rfl g11 dX7_toldNow_9 ?_
      refine lv_goto (tgt := 46) hx hb dX7_toldNow_10 (by decide) ?_
      have e0_ := sm1 hf
      exact hret _ _ _ _ _ hw e0_ (Or.inl rfl) dX7_toldNow_46
  rw [hH, hlc] at goal
  exact goal
abbrev rmX7_told : Room := { frames := 2, cells := 0, slots := 0, locals := 43 }
theorem hd_X7_told : yX7_told.cls = RX7 ∧ yX7_told.cls ≠ "java/lang/invoke/MethodHandle" ∧ yX7_told.cls ≠ "java/lang/invoke/VarHandle" ∧ (parseMethodDescriptor yX7_told.desc).map (fun d => d.parameters.length) = some 2 := by decide +kernel
set_option maxHeartbeats 4000000 in
set_option maxRecDepth 100000 in
theorem k_X7_told (l : Launch) (D : va_G) (cA : ClassId) (o : Nat → Nat) (oM : St) (a1 : Int32) (a2 : Int32) (r : Int32) (hf : f_X7_told oM a1 a2 = some (r)) : Mi l yX7_told wsX7_told rmX7_told D cA z_0 [.ref (o 0), .int a1, .int a2] (wX7 o cA oM) r (wX7 o cA oM) := by
  refine Mi.of (cc := cX7_told) (maxL := 3) (ret := (some .int)) (plainFor_of_name (by decide)) rfl (Nat.le_of_ble_eq_true rfl) (Or.inl rfl) ?_
  intro p e s m below meth c A Q hx hb hml hown hts hK hA hZ hret ls hl hw
  replace hown : s.vm.findClass RX7 = some m.cls := hown
  have hl : lv_has ls 3 [(0, .ref (o 0)), (1, .int a1), (2, .int a2)] := hl
  have hZo := z_0_ok
  unfold f_X7_told at hf
  obtain ⟨H, hH⟩ : ∃ H, H = s.heap := ⟨_, rfl⟩
  obtain ⟨locs, hlc⟩ : ∃ locs : List Loc, locs = [] := ⟨_, rfl⟩
  have hw : Wd D A s.heap H locs (wX7 o cA oM) := by rw [hH, hlc]; exact hw
  have goal : W p l e rmX7_told s m ([.ref (o 0), .int a1, .int a2] : List Value).toArray below meth c H locs 0 0 Q (F0 m 0 ls []) := by
    clear hH hlc
    refine lv_aload_n hx hb dX7_told_0 rfl (lv_at hl 0 rfl) ?_
    refine lv_iload_n hx hb dX7_told_1 rfl (lv_at hl 1 rfl) ?_
    obtain ⟨x1, g2, hf⟩ := bn1_e hf
    have fr := fr_X7_X7_oM o cA oM oM
    refine go_i (run_v (As := [.int a1]) (rest := []) ⟨hx, hb, hml, hown, hts⟩ (k_X7_isDot l D cA o oM a1 x1 g2 H.size) (cwV 1 hts gX7_told_X7_isDot rfl rfl rfl hd_X7_isDot ⟨Nat.le_of_ble_eq_true rfl, Nat.le_of_ble_eq_true rfl⟩) fr hw hK hA hZo hZ (ci := 7) rfl rfl rfl rfl hl.1 rfl (Nat.le_of_ble_eq_true rfl) dX7_told_2 ⟨Nat.zero_le _, Nat.zero_le _⟩) fr hw hA (fun H locs hw => ?_)
    refine lv_if_ne (tgt := 11) hx hb dX7_told_5 (by decide) (fun c3 => ?_) (fun c3 => ?_)
    · have hf := if_f c3 hf
      refine lv_iload_n hx hb dX7_told_11 rfl (lv_at hl 2 rfl) ?_
      refine lv_iconst (v := 0) hx hb dX7_told_12 (by decide) ?_
      refine lv_iconst (v := 3) hx hb dX7_told_13 (by decide) ?_
      obtain ⟨x4, g5, hf⟩ := bn1_e hf
      have fr := fr_X7_S o cA oM
      refine go_i (run_s (As := [.int a2, .int 0, .int 3]) (rest := []) ⟨hx, hb, hml, hown, hts⟩ (k_X7_within l D cA a2 0 3 x4 g5 H.size) (va_cwS 3 hts gX7_told_X7_within rfl rfl rfl hd_X7_within ⟨Nat.le_of_ble_eq_true rfl, Nat.le_of_ble_eq_true rfl⟩) fr hw hK hA rfl hl.1 rfl (Nat.le_of_ble_eq_true rfl) dX7_told_14 ⟨Nat.zero_le _, Nat.zero_le _⟩) fr hw hA (fun H locs hw => ?_)
      refine lv_if_eq (tgt := 29) hx hb dX7_told_17 (by decide) (fun c6 => ?_) (fun c6 => ?_)
      · have hf := if_t c6 hf
        refine lv_bipush (v := (-102)) hx hb dX7_told_29 (by decide) ?_
        have e0_ := sm1 hf
        exact hret _ _ _ _ _ hw e0_ (Or.inl rfl) dX7_told_31
      · have hf := if_f c6 hf
        refine lv_aload_n hx hb dX7_told_20 rfl (lv_at hl 0 rfl) ?_
        refine lv_iload_n hx hb dX7_told_21 rfl (lv_at hl 1 rfl) ?_
        refine lv_iload_n hx hb dX7_told_22 rfl (lv_at hl 2 rfl) ?_
        obtain ⟨x7, g8, hf⟩ := bn1_e hf
        have fr := fr_X7_X7_oM o cA oM oM
        refine go_i (run_v (As := [.int a1, .int a2]) (rest := []) ⟨hx, hb, hml, hown, hts⟩ (k_X7_toldNow l D cA o oM a1 a2 x7 g8 H.size) (cwV 2 hts gX7_told_X7_toldNow rfl rfl rfl hd_X7_toldNow ⟨Nat.le_of_ble_eq_true rfl, Nat.le_of_ble_eq_true rfl⟩) fr hw hK hA hZo hZ (ci := 7) rfl rfl rfl rfl hl.1 rfl (Nat.le_of_ble_eq_true rfl) dX7_told_23 ⟨Nat.zero_le _, Nat.zero_le _⟩) fr hw hA (fun H locs hw => ?_)
        refine lv_goto (tgt := 31) hx hb dX7_told_26 (by decide) ?_
        have e0_ := sm1 hf
        exact hret _ _ _ _ _ hw e0_ (Or.inl rfl) dX7_told_31
    · have hf := if_t c3 hf
      refine lv_bipush (v := (-101)) hx hb dX7_told_8 (by decide) ?_
      have e0_ := sm1 hf
      exact hret _ _ _ _ _ hw e0_ (Or.inl rfl) dX7_told_10
  rw [hH, hlc] at goal
  exact goal
abbrev rmX7_aboutNow : Room := { frames := 0, cells := 0, slots := 0, locals := 0 }
theorem hd_X7_aboutNow : yX7_aboutNow.cls = RX7 ∧ yX7_aboutNow.cls ≠ "java/lang/invoke/MethodHandle" ∧ yX7_aboutNow.cls ≠ "java/lang/invoke/VarHandle" ∧ (parseMethodDescriptor yX7_aboutNow.desc).map (fun d => d.parameters.length) = some 1 := by decide +kernel
set_option maxHeartbeats 4000000 in
set_option maxRecDepth 100000 in
theorem k_X7_aboutNow (l : Launch) (D : va_G) (cA : ClassId) (o : Nat → Nat) (oM : St) (a1 : Int32) (r : Int32) (hf : f_X7_aboutNow oM a1 = some (r)) : Mi l yX7_aboutNow wsX7_aboutNow rmX7_aboutNow D cA z_0 [.ref (o 0), .int a1] (wX7 o cA oM) r (wX7 o cA oM) := by
  refine Mi.of (cc := cX7_aboutNow) (maxL := 2) (ret := (some .int)) (plainFor_of_name (by decide)) rfl (Nat.le_of_ble_eq_true rfl) (Or.inl rfl) ?_
  intro p e s m below meth c A Q hx hb hml hown hts hK hA hZ hret ls hl hw
  replace hown : s.vm.findClass RX7 = some m.cls := hown
  have hl : lv_has ls 2 [(0, .ref (o 0)), (1, .int a1)] := hl
  have hZo := z_0_ok
  have hi7 : ∀ w ∈ wsX70, w ∈ wsX7_aboutNow := fun w h => List.mem_cons_of_mem _ (List.mem_append_right _ h)
  have q0 := hts (.fieldLink RX7 115 "ArcRingsModel" "wide" "I") (by decide +kernel)
  have q1 := hts (.fieldLink RX7 118 "ArcRingsModel" "high" "I") (by decide +kernel)
  have q2 := hts (.fieldLink RX7 121 "ArcRingsModel" "dots" "I") (by decide +kernel)
  have q3 := hts (.fieldLink RX7 22 "ArcRingsModel" "bounds" "[I") (by decide +kernel)
  unfold f_X7_aboutNow at hf
  obtain ⟨H, hH⟩ : ∃ H, H = s.heap := ⟨_, rfl⟩
  obtain ⟨locs, hlc⟩ : ∃ locs : List Loc, locs = [] := ⟨_, rfl⟩
  have hw : Wd D A s.heap H locs (wX7 o cA oM) := by rw [hH, hlc]; exact hw
  have goal : W p l e rmX7_aboutNow s m ([.ref (o 0), .int a1] : List Value).toArray below meth c H locs 0 0 Q (F0 m 0 ls []) := by
    clear hH hlc
    refine lv_iload_n hx hb dX7_aboutNow_0 rfl (lv_at hl 1 rfl) ?_
    by_cases c1 : a1 = 0
    · have hf := if_t c1 hf
      refine lv_tableIn (tgt := 28) hx hb dX7_aboutNow_1 (by rw [c1]; decide) (by rw [c1]; decide) (by rw [c1]; rfl) (by decide) ?_
      refine lv_aload_n hx hb dX7_aboutNow_28 rfl (lv_at hl 0 rfl) ?_
      refine w_get hx hb hts hi7 hown hK hw 0 rfl rfl 2 (by decide) q0 rfl (v := .int (oM.1 2)) rfl dX7_aboutNow_29 ?_
      have e0_ := sm1 hf
      exact hret _ _ _ _ _ hw e0_ (Or.inl rfl) dX7_aboutNow_32
    have hf := if_f c1 hf
    by_cases c2 : a1 = 1
    · have hf := if_t c2 hf
      refine lv_tableIn (tgt := 33) hx hb dX7_aboutNow_1 (by rw [c2]; decide) (by rw [c2]; decide) (by rw [c2]; rfl) (by decide) ?_
      refine lv_aload_n hx hb dX7_aboutNow_33 rfl (lv_at hl 0 rfl) ?_
      refine w_get hx hb hts hi7 hown hK hw 0 rfl rfl 3 (by decide) q1 rfl (v := .int (oM.1 3)) rfl dX7_aboutNow_34 ?_
      have e0_ := sm1 hf
      exact hret _ _ _ _ _ hw e0_ (Or.inl rfl) dX7_aboutNow_37
    have hf := if_f c2 hf
    by_cases c3 : a1 = 2
    · have hf := if_t c3 hf
      refine lv_tableIn (tgt := 38) hx hb dX7_aboutNow_1 (by rw [c3]; decide) (by rw [c3]; decide) (by rw [c3]; rfl) (by decide) ?_
      refine lv_aload_n hx hb dX7_aboutNow_38 rfl (lv_at hl 0 rfl) ?_
      refine w_get hx hb hts hi7 hown hK hw 0 rfl rfl 5 (by decide) q2 rfl (v := .int (oM.1 5)) rfl dX7_aboutNow_39 ?_
      have e0_ := sm1 hf
      exact hret _ _ _ _ _ hw e0_ (Or.inl rfl) dX7_aboutNow_42
    have hf := if_f c3 hf
    refine lv_tableOut (tgt := 43) hx hb dX7_aboutNow_1 (w_out (n := 3) (by decide) (fun k hk => ?_)) (by decide) ?_
    · match k, hk with
      | 0, _ => exact c1
      | 1, _ => exact c2
      | 2, _ => exact c3
      | k + 3, hk => omega
    refine lv_aload_n hx hb dX7_aboutNow_43 rfl (lv_at hl 0 rfl) ?_
    refine w_get hx hb hts hi7 hown hK hw 0 rfl rfl 9 (by decide) q3 rfl (v := .ref (o 5)) rfl dX7_aboutNow_44 ?_
    refine lv_iload_n hx hb dX7_aboutNow_47 rfl (lv_at hl 1 rfl) ?_
    refine lv_iconst (v := 3) hx hb dX7_aboutNow_48 (by decide) ?_
    refine lv_isub hx hb dX7_aboutNow_49 ?_
    obtain ⟨x4, g5, hf⟩ := bn1_e hf
    refine w_ald hx hb hK hw 5 rfl g5 dX7_aboutNow_50 ?_
    have e0_ := sm1 hf
    exact hret _ _ _ _ _ hw e0_ (Or.inl rfl) dX7_aboutNow_51
  rw [hH, hlc] at goal
  exact goal
abbrev rmX7_about : Room := { frames := 1, cells := 0, slots := 0, locals := 22 }
theorem hd_X7_about : yX7_about.cls = RX7 ∧ yX7_about.cls ≠ "java/lang/invoke/MethodHandle" ∧ yX7_about.cls ≠ "java/lang/invoke/VarHandle" ∧ (parseMethodDescriptor yX7_about.desc).map (fun d => d.parameters.length) = some 1 := by decide +kernel
set_option maxHeartbeats 4000000 in
set_option maxRecDepth 100000 in
theorem k_X7_about (l : Launch) (D : va_G) (cA : ClassId) (o : Nat → Nat) (oM : St) (a1 : Int32) (r : Int32) (hf : f_X7_about oM a1 = some (r)) : Mi l yX7_about wsX7_about rmX7_about D cA z_0 [.ref (o 0), .int a1] (wX7 o cA oM) r (wX7 o cA oM) := by
  refine Mi.of (cc := cX7_about) (maxL := 2) (ret := (some .int)) (plainFor_of_name (by decide)) rfl (Nat.le_of_ble_eq_true rfl) (Or.inl rfl) ?_
  intro p e s m below meth c A Q hx hb hml hown hts hK hA hZ hret ls hl hw
  replace hown : s.vm.findClass RX7 = some m.cls := hown
  have hl : lv_has ls 2 [(0, .ref (o 0)), (1, .int a1)] := hl
  have hZo := z_0_ok
  unfold f_X7_about at hf
  obtain ⟨H, hH⟩ : ∃ H, H = s.heap := ⟨_, rfl⟩
  obtain ⟨locs, hlc⟩ : ∃ locs : List Loc, locs = [] := ⟨_, rfl⟩
  have hw : Wd D A s.heap H locs (wX7 o cA oM) := by rw [hH, hlc]; exact hw
  have goal : W p l e rmX7_about s m ([.ref (o 0), .int a1] : List Value).toArray below meth c H locs 0 0 Q (F0 m 0 ls []) := by
    clear hH hlc
    refine lv_iload_n hx hb dX7_about_0 rfl (lv_at hl 1 rfl) ?_
    refine lv_iconst (v := 0) hx hb dX7_about_1 (by decide) ?_
    refine lv_bipush (v := 7) hx hb dX7_about_2 (by decide) ?_
    obtain ⟨x1, g2, hf⟩ := bn1_e hf
    have fr := fr_X7_S o cA oM
    refine go_i (run_s (As := [.int a1, .int 0, .int 7]) (rest := []) ⟨hx, hb, hml, hown, hts⟩ (k_X7_within l D cA a1 0 7 x1 g2 H.size) (va_cwS 3 hts gX7_about_X7_within rfl rfl rfl hd_X7_within ⟨Nat.le_of_ble_eq_true rfl, Nat.le_of_ble_eq_true rfl⟩) fr hw hK hA rfl hl.1 rfl (Nat.le_of_ble_eq_true rfl) dX7_about_4 ⟨Nat.zero_le _, Nat.zero_le _⟩) fr hw hA (fun H locs hw => ?_)
    refine lv_if_ne (tgt := 13) hx hb dX7_about_7 (by decide) (fun c3 => ?_) (fun c3 => ?_)
    · have hf := if_f c3 hf
      refine lv_aload_n hx hb dX7_about_13 rfl (lv_at hl 0 rfl) ?_
      obtain ⟨x4, g5, hf⟩ := bn1_e hf
      have fr := fr_X7_X7_oM o cA oM oM
      refine go_i (run_v (As := []) (rest := []) ⟨hx, hb, hml, hown, hts⟩ (k_X7_isSheet l D cA o oM x4 g5 H.size) (cwV 0 hts gX7_about_X7_isSheet rfl rfl rfl hd_X7_isSheet ⟨Nat.le_of_ble_eq_true rfl, Nat.le_of_ble_eq_true rfl⟩) fr hw hK hA hZo hZ (ci := 7) rfl rfl rfl rfl hl.1 rfl (Nat.le_of_ble_eq_true rfl) dX7_about_14 ⟨Nat.zero_le _, Nat.zero_le _⟩) fr hw hA (fun H locs hw => ?_)
      refine lv_if_eq (tgt := 28) hx hb dX7_about_17 (by decide) (fun c6 => ?_) (fun c6 => ?_)
      · have hf := if_t c6 hf
        refine lv_bipush (v := (-103)) hx hb dX7_about_28 (by decide) ?_
        have e0_ := sm1 hf
        exact hret _ _ _ _ _ hw e0_ (Or.inl rfl) dX7_about_30
      · have hf := if_f c6 hf
        refine lv_aload_n hx hb dX7_about_20 rfl (lv_at hl 0 rfl) ?_
        refine lv_iload_n hx hb dX7_about_21 rfl (lv_at hl 1 rfl) ?_
        obtain ⟨x7, g8, hf⟩ := bn1_e hf
        have fr := fr_X7_X7_oM o cA oM oM
        refine go_i (run_v (As := [.int a1]) (rest := []) ⟨hx, hb, hml, hown, hts⟩ (k_X7_aboutNow l D cA o oM a1 x7 g8 H.size) (cwV 1 hts gX7_about_X7_aboutNow rfl rfl rfl hd_X7_aboutNow ⟨Nat.le_of_ble_eq_true rfl, Nat.le_of_ble_eq_true rfl⟩) fr hw hK hA hZo hZ (ci := 7) rfl rfl rfl rfl hl.1 rfl (Nat.le_of_ble_eq_true rfl) dX7_about_22 ⟨Nat.zero_le _, Nat.zero_le _⟩) fr hw hA (fun H locs hw => ?_)
        refine lv_goto (tgt := 30) hx hb dX7_about_25 (by decide) ?_
        have e0_ := sm1 hf
        exact hret _ _ _ _ _ hw e0_ (Or.inl rfl) dX7_about_30
    · have hf := if_t c3 hf
      refine lv_bipush (v := (-102)) hx hb dX7_about_10 (by decide) ?_
      have e0_ := sm1 hf
      exact hret _ _ _ _ _ hw e0_ (Or.inl rfl) dX7_about_12
  rw [hH, hlc] at goal
  exact goal
abbrev rmX7_isBound : Room := { frames := 1, cells := 0, slots := 0, locals := 22 }
theorem hd_X7_isBound : yX7_isBound.cls = RX7 ∧ yX7_isBound.cls ≠ "java/lang/invoke/MethodHandle" ∧ yX7_isBound.cls ≠ "java/lang/invoke/VarHandle" ∧ (parseMethodDescriptor yX7_isBound.desc).map (fun d => d.parameters.length) = some 2 := by decide +kernel
set_option maxHeartbeats 4000000 in
set_option maxRecDepth 100000 in
theorem k_X7_isBound (l : Launch) (D : va_G) (cA : ClassId) (o : Nat → Nat) (oM : St) (a1 : Int32) (a2 : Int32) (r : Int32) (hf : f_X7_isBound oM a1 a2 = some (r)) : Mi l yX7_isBound wsX7_isBound rmX7_isBound D cA z_0 [.ref (o 0), .int a1, .int a2] (wX7 o cA oM) r (wX7 o cA oM) := by
  refine Mi.of (cc := cX7_isBound) (maxL := 3) (ret := (some .boolean)) (plainFor_of_name (by decide)) rfl (Nat.le_of_ble_eq_true rfl) (Or.inr rfl) ?_
  intro p e s m below meth c A Q hx hb hml hown hts hK hA hZ hret ls hl hw
  replace hown : s.vm.findClass RX7 = some m.cls := hown
  have hl : lv_has ls 3 [(0, .ref (o 0)), (1, .int a1), (2, .int a2)] := hl
  have hZo := z_0_ok
  have hi7 : ∀ w ∈ wsX70, w ∈ wsX7_isBound := fun w h => List.mem_cons_of_mem _ (List.mem_append_right _ h)
  have q0 := hts (.fieldLink RX7 22 "ArcRingsModel" "bounds" "[I") (by decide +kernel)
  unfold f_X7_isBound at hf
  obtain ⟨H, hH⟩ : ∃ H, H = s.heap := ⟨_, rfl⟩
  obtain ⟨locs, hlc⟩ : ∃ locs : List Loc, locs = [] := ⟨_, rfl⟩
  have hw : Wd D A s.heap H locs (wX7 o cA oM) := by rw [hH, hlc]; exact hw
  have goal : W p l e rmX7_isBound s m ([.ref (o 0), .int a1, .int a2] : List Value).toArray below meth c H locs 0 0 Q (F0 m 0 ls []) := by
    clear hH hlc
    refine lv_iload_n hx hb dX7_isBound_0 rfl (lv_at hl 1 rfl) ?_
    by_cases c1 : a1 = 0
    · have hf := if_t c1 hf
      refine lv_tableIn (tgt := 36) hx hb dX7_isBound_1 (by rw [c1]; decide) (by rw [c1]; decide) (by rw [c1]; rfl) (by decide) ?_
      refine lv_iload_n hx hb dX7_isBound_36 rfl (lv_at hl 2 rfl) ?_
      refine lv_iconst (v := 1) hx hb dX7_isBound_37 (by decide) ?_
      refine lv_aload_n hx hb dX7_isBound_38 rfl (lv_at hl 0 rfl) ?_
      refine w_get hx hb hts hi7 hown hK hw 0 rfl rfl 9 (by decide) q0 rfl (v := .ref (o 5)) rfl dX7_isBound_39 ?_
      refine lv_iconst (v := 1) hx hb dX7_isBound_42 (by decide) ?_
      obtain ⟨x2, g3, hf⟩ := bn1_e hf
      refine w_ald hx hb hK hw 5 rfl g3 dX7_isBound_43 ?_
      obtain ⟨x4, g5, hf⟩ := bn1_e hf
      have fr := fr_X7_S o cA oM
      refine go_i (run_s (As := [.int a2, .int 1, .int x2]) (rest := []) ⟨hx, hb, hml, hown, hts⟩ (k_X7_within l D cA a2 1 x2 x4 g5 H.size) (va_cwS 3 hts gX7_isBound_X7_within rfl rfl rfl hd_X7_within ⟨Nat.le_of_ble_eq_true rfl, Nat.le_of_ble_eq_true rfl⟩) fr hw hK hA rfl hl.1 rfl (Nat.le_of_ble_eq_true rfl) dX7_isBound_44 ⟨Nat.zero_le _, Nat.zero_le _⟩) fr hw hA (fun H locs hw => ?_)
      obtain ⟨bz, hf⟩ := if_n hf
      have e0_ := sm1 hf
      exact hret _ _ _ _ _ hw e0_ (Or.inr bz) dX7_isBound_47
    have hf := if_f c1 hf
    by_cases c6 : a1 = 1
    · have hf := if_t c6 hf
      refine lv_tableIn (tgt := 48) hx hb dX7_isBound_1 (by rw [c6]; decide) (by rw [c6]; decide) (by rw [c6]; rfl) (by decide) ?_
      refine lv_iload_n hx hb dX7_isBound_48 rfl (lv_at hl 2 rfl) ?_
      refine lv_aload_n hx hb dX7_isBound_49 rfl (lv_at hl 0 rfl) ?_
      refine w_get hx hb hts hi7 hown hK hw 0 rfl rfl 9 (by decide) q0 rfl (v := .ref (o 5)) rfl dX7_isBound_50 ?_
      refine lv_iconst (v := 0) hx hb dX7_isBound_53 (by decide) ?_
      obtain ⟨x7, g8, hf⟩ := bn1_e hf
      refine w_ald hx hb hK hw 5 rfl g8 dX7_isBound_54 ?_
      refine lv_bipush (v := 22) hx hb dX7_isBound_55 (by decide) ?_
      obtain ⟨x9, g10, hf⟩ := bn1_e hf
      have fr := fr_X7_S o cA oM
      refine go_i (run_s (As := [.int a2, .int x7, .int 22]) (rest := []) ⟨hx, hb, hml, hown, hts⟩ (k_X7_within l D cA a2 x7 22 x9 g10 H.size) (va_cwS 3 hts gX7_isBound_X7_within rfl rfl rfl hd_X7_within ⟨Nat.le_of_ble_eq_true rfl, Nat.le_of_ble_eq_true rfl⟩) fr hw hK hA rfl hl.1 rfl (Nat.le_of_ble_eq_true rfl) dX7_isBound_57 ⟨Nat.zero_le _, Nat.zero_le _⟩) fr hw hA (fun H locs hw => ?_)
      obtain ⟨bz, hf⟩ := if_n hf
      have e0_ := sm1 hf
      exact hret _ _ _ _ _ hw e0_ (Or.inr bz) dX7_isBound_60
    have hf := if_f c6 hf
    by_cases c11 : a1 = 2
    · have hf := if_t c11 hf
      refine lv_tableIn (tgt := 61) hx hb dX7_isBound_1 (by rw [c11]; decide) (by rw [c11]; decide) (by rw [c11]; rfl) (by decide) ?_
      refine lv_iload_n hx hb dX7_isBound_61 rfl (lv_at hl 2 rfl) ?_
      refine lv_iconst (v := 0) hx hb dX7_isBound_62 (by decide) ?_
      refine lv_iconst (v := 4) hx hb dX7_isBound_63 (by decide) ?_
      obtain ⟨x12, g13, hf⟩ := bn1_e hf
      have fr := fr_X7_S o cA oM
      refine go_i (run_s (As := [.int a2, .int 0, .int 4]) (rest := []) ⟨hx, hb, hml, hown, hts⟩ (k_X7_within l D cA a2 0 4 x12 g13 H.size) (va_cwS 3 hts gX7_isBound_X7_within rfl rfl rfl hd_X7_within ⟨Nat.le_of_ble_eq_true rfl, Nat.le_of_ble_eq_true rfl⟩) fr hw hK hA rfl hl.1 rfl (Nat.le_of_ble_eq_true rfl) dX7_isBound_64 ⟨Nat.zero_le _, Nat.zero_le _⟩) fr hw hA (fun H locs hw => ?_)
      obtain ⟨bz, hf⟩ := if_n hf
      have e0_ := sm1 hf
      exact hret _ _ _ _ _ hw e0_ (Or.inr bz) dX7_isBound_67
    have hf := if_f c11 hf
    by_cases c14 : a1 = 3
    · have hf := if_t c14 hf
      refine lv_tableIn (tgt := 68) hx hb dX7_isBound_1 (by rw [c14]; decide) (by rw [c14]; decide) (by rw [c14]; rfl) (by decide) ?_
      refine lv_iload_n hx hb dX7_isBound_68 rfl (lv_at hl 2 rfl) ?_
      refine lv_iconst (v := 2) hx hb dX7_isBound_69 (by decide) ?_
      refine lv_bipush (v := 14) hx hb dX7_isBound_70 (by decide) ?_
      obtain ⟨x15, g16, hf⟩ := bn1_e hf
      have fr := fr_X7_S o cA oM
      refine go_i (run_s (As := [.int a2, .int 2, .int 14]) (rest := []) ⟨hx, hb, hml, hown, hts⟩ (k_X7_within l D cA a2 2 14 x15 g16 H.size) (va_cwS 3 hts gX7_isBound_X7_within rfl rfl rfl hd_X7_within ⟨Nat.le_of_ble_eq_true rfl, Nat.le_of_ble_eq_true rfl⟩) fr hw hK hA rfl hl.1 rfl (Nat.le_of_ble_eq_true rfl) dX7_isBound_72 ⟨Nat.zero_le _, Nat.zero_le _⟩) fr hw hA (fun H locs hw => ?_)
      obtain ⟨bz, hf⟩ := if_n hf
      have e0_ := sm1 hf
      exact hret _ _ _ _ _ hw e0_ (Or.inr bz) dX7_isBound_75
    have hf := if_f c14 hf
    by_cases c17 : a1 = 4
    · have hf := if_t c17 hf
      refine lv_tableIn (tgt := 76) hx hb dX7_isBound_1 (by rw [c17]; decide) (by rw [c17]; decide) (by rw [c17]; rfl) (by decide) ?_
      refine lv_iload_n hx hb dX7_isBound_76 rfl (lv_at hl 2 rfl) ?_
      refine lv_iconst (v := 1) hx hb dX7_isBound_77 (by decide) ?_
      refine lv_bipush (v := 8) hx hb dX7_isBound_78 (by decide) ?_
      obtain ⟨x18, g19, hf⟩ := bn1_e hf
      have fr := fr_X7_S o cA oM
      refine go_i (run_s (As := [.int a2, .int 1, .int 8]) (rest := []) ⟨hx, hb, hml, hown, hts⟩ (k_X7_within l D cA a2 1 8 x18 g19 H.size) (va_cwS 3 hts gX7_isBound_X7_within rfl rfl rfl hd_X7_within ⟨Nat.le_of_ble_eq_true rfl, Nat.le_of_ble_eq_true rfl⟩) fr hw hK hA rfl hl.1 rfl (Nat.le_of_ble_eq_true rfl) dX7_isBound_80 ⟨Nat.zero_le _, Nat.zero_le _⟩) fr hw hA (fun H locs hw => ?_)
      obtain ⟨bz, hf⟩ := if_n hf
      have e0_ := sm1 hf
      exact hret _ _ _ _ _ hw e0_ (Or.inr bz) dX7_isBound_83
    have hf := if_f c17 hf
    refine lv_tableOut (tgt := 84) hx hb dX7_isBound_1 (w_out (n := 5) (by decide) (fun k hk => ?_)) (by decide) ?_
    · match k, hk with
      | 0, _ => exact c1
      | 1, _ => exact c6
      | 2, _ => exact c11
      | 3, _ => exact c14
      | 4, _ => exact c17
      | k + 5, hk => omega
    refine lv_iconst (v := 0) hx hb dX7_isBound_84 (by decide) ?_
    have e0_ := sm1 hf
    exact hret _ _ _ _ _ hw e0_ (Or.inr (Or.inl rfl)) dX7_isBound_85
  rw [hH, hlc] at goal
  exact goal
abbrev rmX7_bound : Room := { frames := 2, cells := 0, slots := 0, locals := 44 }
theorem hd_X7_bound : yX7_bound.cls = RX7 ∧ yX7_bound.cls ≠ "java/lang/invoke/MethodHandle" ∧ yX7_bound.cls ≠ "java/lang/invoke/VarHandle" ∧ (parseMethodDescriptor yX7_bound.desc).map (fun d => d.parameters.length) = some 2 := by decide +kernel
set_option maxHeartbeats 4000000 in
set_option maxRecDepth 100000 in
theorem k_X7_bound (l : Launch) (D : va_G) (cA : ClassId) (o : Nat → Nat) (oM : St) (a1 : Int32) (a2 : Int32) (r : Int32) (oM' : St) (hf : f_X7_bound oM a1 a2 = some (r, oM')) : Mi l yX7_bound wsX7_bound rmX7_bound D cA z_0 [.ref (o 0), .int a1, .int a2] (wX7 o cA oM) r (wX7 o cA oM') := by
  refine Mi.of (cc := cX7_bound) (maxL := 4) (ret := (some .int)) (plainFor_of_name (by decide)) rfl (Nat.le_of_ble_eq_true rfl) (Or.inl rfl) ?_
  intro p e s m below meth c A Q hx hb hml hown hts hK hA hZ hret ls hl hw
  replace hown : s.vm.findClass RX7 = some m.cls := hown
  have hl : lv_has ls 4 [(0, .ref (o 0)), (1, .int a1), (2, .int a2)] := hl
  have hZo := z_0_ok
  have hi7 : ∀ w ∈ wsX70, w ∈ wsX7_bound := fun w h => List.mem_cons_of_mem _ (List.mem_append_right _ h)
  have q0 := hts (.fieldLink RX7 22 "ArcRingsModel" "bounds" "[I") (by decide +kernel)
  have q1 := hts (.fieldLink RX7 124 "ArcRingsModel" "isHunted" "Z") (by decide +kernel)
  unfold f_X7_bound at hf
  obtain ⟨H, hH⟩ : ∃ H, H = s.heap := ⟨_, rfl⟩
  obtain ⟨locs, hlc⟩ : ∃ locs : List Loc, locs = [] := ⟨_, rfl⟩
  have hw : Wd D A s.heap H locs (wX7 o cA oM) := by rw [hH, hlc]; exact hw
  have goal : W p l e rmX7_bound s m ([.ref (o 0), .int a1, .int a2] : List Value).toArray below meth c H locs 0 0 Q (F0 m 0 ls []) := by
    clear hH hlc
    refine lv_aload_n hx hb dX7_bound_0 rfl (lv_at hl 0 rfl) ?_
    obtain ⟨x1, g2, hf⟩ := bn1_e hf
    have fr := fr_X7_X7_oM o cA oM oM
    refine go_i (run_v (As := []) (rest := []) ⟨hx, hb, hml, hown, hts⟩ (k_X7_isSheet l D cA o oM x1 g2 H.size) (cwV 0 hts gX7_bound_X7_isSheet rfl rfl rfl hd_X7_isSheet ⟨Nat.le_of_ble_eq_true rfl, Nat.le_of_ble_eq_true rfl⟩) fr hw hK hA hZo hZ (ci := 7) rfl rfl rfl rfl hl.1 rfl (Nat.le_of_ble_eq_true rfl) dX7_bound_1 ⟨Nat.zero_le _, Nat.zero_le _⟩) fr hw hA (fun H locs hw => ?_)
    refine lv_if_ne (tgt := 10) hx hb dX7_bound_4 (by decide) (fun c3 => ?_) (fun c3 => ?_)
    · have hf := if_f c3 hf
      refine lv_aload_n hx hb dX7_bound_10 rfl (lv_at hl 0 rfl) ?_
      refine lv_iload_n hx hb dX7_bound_11 rfl (lv_at hl 1 rfl) ?_
      refine lv_iload_n hx hb dX7_bound_12 rfl (lv_at hl 2 rfl) ?_
      obtain ⟨x4, g5, hf⟩ := bn1_e hf
      have fr := fr_X7_X7_oM o cA oM oM
      refine go_i (run_v (As := [.int a1, .int a2]) (rest := []) ⟨hx, hb, hml, hown, hts⟩ (k_X7_isBound l D cA o oM a1 a2 x4 g5 H.size) (cwV 2 hts gX7_bound_X7_isBound rfl rfl rfl hd_X7_isBound ⟨Nat.le_of_ble_eq_true rfl, Nat.le_of_ble_eq_true rfl⟩) fr hw hK hA hZo hZ (ci := 7) rfl rfl rfl rfl hl.1 rfl (Nat.le_of_ble_eq_true rfl) dX7_bound_13 ⟨Nat.zero_le _, Nat.zero_le _⟩) fr hw hA (fun H locs hw => ?_)
      refine lv_if_ne (tgt := 22) hx hb dX7_bound_16 (by decide) (fun c6 => ?_) (fun c6 => ?_)
      · have hf := if_f c6 hf
        refine lv_aload_n hx hb dX7_bound_22 rfl (lv_at hl 0 rfl) ?_
        refine w_get hx hb hts hi7 hown hK hw 0 rfl rfl 9 (by decide) q0 rfl (v := .ref (o 5)) rfl dX7_bound_23 ?_
        refine lv_iload_n hx hb dX7_bound_26 rfl (lv_at hl 1 rfl) ?_
        obtain ⟨x7, g8, hf⟩ := bn1_e hf
        refine w_ald hx hb hK hw 5 rfl g8 dX7_bound_27 ?_
        refine lv_istore_n (lv' := [(3, .int x7), (0, .ref (o 0)), (1, .int a1), (2, .int a2)]) hx hb dX7_bound_28 rfl hl (by decide) rfl (fun ls hl => ?_)
        refine lv_aload_n hx hb dX7_bound_29 rfl (lv_at hl 1 rfl) ?_
        refine w_get hx hb hts hi7 hown hK hw 0 rfl rfl 9 (by decide) q0 rfl (v := .ref (o 5)) rfl dX7_bound_30 ?_
        refine lv_iload_n hx hb dX7_bound_33 rfl (lv_at hl 2 rfl) ?_
        refine lv_iload_n hx hb dX7_bound_34 rfl (lv_at hl 3 rfl) ?_
        obtain ⟨oM10, g9, hf⟩ := bn1_e hf
        refine w_aws hx hb hK hw 5 rfl g9 (fun z => (wX7 o cA z)) (fun _ => rfl) dX7_bound_35 (fun H locs hw => ?_)
        refine lv_aload_n hx hb dX7_bound_36 rfl (lv_at hl 1 rfl) ?_
        refine lv_iconst (v := 0) hx hb dX7_bound_37 (by decide) ?_
        refine w_put (ws' := (wX7 o cA ((sI oM10 10 0)))) hx hb hts hi7 tyX7 tyX7_ok nmX7 hown hK hw 0 rfl rfl 10 (by decide) q1 rfl rfl (by decide) (by decide) (Nat.le_of_ble_eq_true rfl) rfl dX7_bound_38 (fun H locs hw => ?_)
        refine lv_iload_n hx hb dX7_bound_41 rfl (lv_at hl 0 rfl) ?_
        obtain ⟨e0_, e1_⟩ := sm2 hf
        exact hret _ _ _ _ _ (by rw [← e1_]; exact hw) e0_ (Or.inl rfl) dX7_bound_42
      · have hf := if_t c6 hf
        refine lv_bipush (v := (-102)) hx hb dX7_bound_19 (by decide) ?_
        obtain ⟨e0_, e1_⟩ := sm2 hf
        exact hret _ _ _ _ _ (by rw [← e1_]; exact hw) e0_ (Or.inl rfl) dX7_bound_21
    · have hf := if_t c3 hf
      refine lv_bipush (v := (-103)) hx hb dX7_bound_7 (by decide) ?_
      obtain ⟨e0_, e1_⟩ := sm2 hf
      exact hret _ _ _ _ _ (by rw [← e1_]; exact hw) e0_ (Or.inl rfl) dX7_bound_9
  rw [hH, hlc] at goal
  exact goal
abbrev rmX7_layMiddle : Room := { frames := 0, cells := 0, slots := 0, locals := 0 }
theorem hd_X7_layMiddle : yX7_layMiddle.cls = RX7 ∧ yX7_layMiddle.cls ≠ "java/lang/invoke/MethodHandle" ∧ yX7_layMiddle.cls ≠ "java/lang/invoke/VarHandle" ∧ (parseMethodDescriptor yX7_layMiddle.desc).map (fun d => d.parameters.length) = some 3 := by decide +kernel
set_option maxHeartbeats 4000000 in
set_option maxRecDepth 100000 in
theorem k_X7_layMiddle (l : Launch) (D : va_G) (cA : ClassId) (o : Nat → Nat) (oM : St) (a1 : Int32) (a2 : Int32) (a3 : Int32) (r : Int32) (oM' : St) (hf : f_X7_layMiddle oM a1 a2 a3 = some (r, oM')) : Mi l yX7_layMiddle wsX7_layMiddle rmX7_layMiddle D cA z_0 [.ref (o 0), .int a1, .int a2, .int a3] (wX7 o cA oM) r (wX7 o cA oM') := by
  refine Mi.of (cc := cX7_layMiddle) (maxL := 20) (ret := (some .boolean)) (plainFor_of_name (by decide)) rfl (Nat.le_of_ble_eq_true rfl) (Or.inr rfl) ?_
  intro p e s m below meth c A Q hx hb hml hown hts hK hA hZ hret ls hl hw
  replace hown : s.vm.findClass RX7 = some m.cls := hown
  have hl : lv_has ls 20 [(0, .ref (o 0)), (1, .int a1), (2, .int a2), (3, .int a3)] := hl
  have hZo := z_0_ok
  have hi7 : ∀ w ∈ wsX70, w ∈ wsX7_layMiddle := fun w h => List.mem_cons_of_mem _ (List.mem_append_right _ h)
  have q0 := hts (.fieldLink RX7 13 "ArcRingsModel" "dotX" "[I") (by decide +kernel)
  have q1 := hts (.fieldLink RX7 16 "ArcRingsModel" "dotY" "[I") (by decide +kernel)
  have q2 := hts (.constantLong RX7 210 2) (by decide +kernel)
  have q3 := hts (.fieldLink RX7 212 "ArcRingsModel" "under" "J") (by decide +kernel)
  have q4 := hts (.fieldLink RX7 217 "ArcRingsModel" "midX" "J") (by decide +kernel)
  have q5 := hts (.fieldLink RX7 220 "ArcRingsModel" "midY" "J") (by decide +kernel)
  have q6 := hts (.constantLong RX7 215 (-1)) (by decide +kernel)
  unfold f_X7_layMiddle at hf
  obtain ⟨H, hH⟩ : ∃ H, H = s.heap := ⟨_, rfl⟩
  obtain ⟨locs, hlc⟩ : ∃ locs : List Loc, locs = [] := ⟨_, rfl⟩
  have hw : Wd D A s.heap H locs (wX7 o cA oM) := by rw [hH, hlc]; exact hw
  have goal : W p l e rmX7_layMiddle s m ([.ref (o 0), .int a1, .int a2, .int a3] : List Value).toArray below meth c H locs 0 0 Q (F0 m 0 ls []) := by
    clear hH hlc
    refine lv_aload_n hx hb dX7_layMiddle_0 rfl (lv_at hl 0 rfl) ?_
    refine w_get hx hb hts hi7 hown hK hw 0 rfl rfl 6 (by decide) q0 rfl (v := .ref (o 2)) rfl dX7_layMiddle_1 ?_
    refine lv_iload_n hx hb dX7_layMiddle_4 rfl (lv_at hl 2 rfl) ?_
    obtain ⟨x1, g2, hf⟩ := bn1_e hf
    refine w_ald hx hb hK hw 2 rfl g2 dX7_layMiddle_5 ?_
    refine lv_aload_n hx hb dX7_layMiddle_6 rfl (lv_at hl 0 rfl) ?_
    refine w_get hx hb hts hi7 hown hK hw 0 rfl rfl 6 (by decide) q0 rfl (v := .ref (o 2)) rfl dX7_layMiddle_7 ?_
    refine lv_iload_n hx hb dX7_layMiddle_10 rfl (lv_at hl 1 rfl) ?_
    obtain ⟨x3, g4, hf⟩ := bn1_e hf
    refine w_ald hx hb hK hw 2 rfl g4 dX7_layMiddle_11 ?_
    refine lv_isub hx hb dX7_layMiddle_12 ?_
    refine lv_i2l (v := (x1 - x3 : Int32).toInt64) hx hb dX7_layMiddle_13 rfl ?_
    refine lv_lstore (lv' := [(4, .long ((x1 - x3 : Int32).toInt64)), (0, .ref (o 0)), (1, .int a1), (2, .int a2), (3, .int a3)]) hx hb dX7_layMiddle_14 hl (by decide) rfl (fun ls hl => ?_)
    refine lv_aload_n hx hb dX7_layMiddle_16 rfl (lv_at hl 1 rfl) ?_
    refine w_get hx hb hts hi7 hown hK hw 0 rfl rfl 7 (by decide) q1 rfl (v := .ref (o 3)) rfl dX7_layMiddle_17 ?_
    refine lv_iload_n hx hb dX7_layMiddle_20 rfl (lv_at hl 3 rfl) ?_
    obtain ⟨x5, g6, hf⟩ := bn1_e hf
    refine w_ald hx hb hK hw 3 rfl g6 dX7_layMiddle_21 ?_
    refine lv_aload_n hx hb dX7_layMiddle_22 rfl (lv_at hl 1 rfl) ?_
    refine w_get hx hb hts hi7 hown hK hw 0 rfl rfl 7 (by decide) q1 rfl (v := .ref (o 3)) rfl dX7_layMiddle_23 ?_
    refine lv_iload_n hx hb dX7_layMiddle_26 rfl (lv_at hl 2 rfl) ?_
    obtain ⟨x7, g8, hf⟩ := bn1_e hf
    refine w_ald hx hb hK hw 3 rfl g8 dX7_layMiddle_27 ?_
    refine lv_isub hx hb dX7_layMiddle_28 ?_
    refine lv_i2l (v := (x5 - x7 : Int32).toInt64) hx hb dX7_layMiddle_29 rfl ?_
    refine lv_lstore (lv' := [(6, .long ((x5 - x7 : Int32).toInt64)), (4, .long ((x1 - x3 : Int32).toInt64)), (0, .ref (o 0)), (1, .int a1), (2, .int a2), (3, .int a3)]) hx hb dX7_layMiddle_30 hl (by decide) rfl (fun ls hl => ?_)
    refine lv_aload_n hx hb dX7_layMiddle_32 rfl (lv_at hl 2 rfl) ?_
    refine w_get hx hb hts hi7 hown hK hw 0 rfl rfl 6 (by decide) q0 rfl (v := .ref (o 2)) rfl dX7_layMiddle_33 ?_
    refine lv_iload_n hx hb dX7_layMiddle_36 rfl (lv_at hl 5 rfl) ?_
    obtain ⟨x9, g10, hf⟩ := bn1_e hf
    refine w_ald hx hb hK hw 2 rfl g10 dX7_layMiddle_37 ?_
    refine lv_aload_n hx hb dX7_layMiddle_38 rfl (lv_at hl 2 rfl) ?_
    refine w_get hx hb hts hi7 hown hK hw 0 rfl rfl 6 (by decide) q0 rfl (v := .ref (o 2)) rfl dX7_layMiddle_39 ?_
    refine lv_iload_n hx hb dX7_layMiddle_42 rfl (lv_at hl 3 rfl) ?_
    obtain ⟨x11, g12, hf⟩ := bn1_e hf
    refine w_ald hx hb hK hw 2 rfl g12 dX7_layMiddle_43 ?_
    refine lv_isub hx hb dX7_layMiddle_44 ?_
    refine lv_i2l (v := (x9 - x11 : Int32).toInt64) hx hb dX7_layMiddle_45 rfl ?_
    refine lv_lstore (lv' := [(8, .long ((x9 - x11 : Int32).toInt64)), (6, .long ((x5 - x7 : Int32).toInt64)), (4, .long ((x1 - x3 : Int32).toInt64)), (0, .ref (o 0)), (1, .int a1), (2, .int a2), (3, .int a3)]) hx hb dX7_layMiddle_46 hl (by decide) rfl (fun ls hl => ?_)
    refine lv_aload_n hx hb dX7_layMiddle_48 rfl (lv_at hl 3 rfl) ?_
    refine w_get hx hb hts hi7 hown hK hw 0 rfl rfl 7 (by decide) q1 rfl (v := .ref (o 3)) rfl dX7_layMiddle_49 ?_
    refine lv_iload_n hx hb dX7_layMiddle_52 rfl (lv_at hl 6 rfl) ?_
    obtain ⟨x13, g14, hf⟩ := bn1_e hf
    refine w_ald hx hb hK hw 3 rfl g14 dX7_layMiddle_53 ?_
    refine lv_aload_n hx hb dX7_layMiddle_54 rfl (lv_at hl 3 rfl) ?_
    refine w_get hx hb hts hi7 hown hK hw 0 rfl rfl 7 (by decide) q1 rfl (v := .ref (o 3)) rfl dX7_layMiddle_55 ?_
    refine lv_iload_n hx hb dX7_layMiddle_58 rfl (lv_at hl 4 rfl) ?_
    obtain ⟨x15, g16, hf⟩ := bn1_e hf
    refine w_ald hx hb hK hw 3 rfl g16 dX7_layMiddle_59 ?_
    refine lv_isub hx hb dX7_layMiddle_60 ?_
    refine lv_i2l (v := (x13 - x15 : Int32).toInt64) hx hb dX7_layMiddle_61 rfl ?_
    refine lv_lstore (lv' := [(10, .long ((x13 - x15 : Int32).toInt64)), (8, .long ((x9 - x11 : Int32).toInt64)), (6, .long ((x5 - x7 : Int32).toInt64)), (4, .long ((x1 - x3 : Int32).toInt64)), (0, .ref (o 0)), (1, .int a1), (2, .int a2), (3, .int a3)]) hx hb dX7_layMiddle_62 hl (by decide) rfl (fun ls hl => ?_)
    refine lv_ldc2 hx hb hown q2 dX7_layMiddle_64 ?_
    refine lv_lload hx hb dX7_layMiddle_67 (lv_at hl 3 rfl) ?_
    refine lv_lload hx hb dX7_layMiddle_69 (lv_at hl 0 rfl) ?_
    refine lv_lmul hx hb dX7_layMiddle_71 ?_
    refine lv_lload hx hb dX7_layMiddle_72 (lv_at hl 2 rfl) ?_
    refine lv_lload hx hb dX7_layMiddle_74 (lv_at hl 1 rfl) ?_
    refine lv_lmul hx hb dX7_layMiddle_76 ?_
    refine lv_lsub hx hb dX7_layMiddle_77 ?_
    refine lv_lmul hx hb dX7_layMiddle_78 ?_
    obtain ⟨y17, e18, hf⟩ := bn1_e hf
    refine w_nml (sm1 e18) ?_
    refine lv_lstore (lv' := [(12, .long y17), (10, .long ((x13 - x15 : Int32).toInt64)), (8, .long ((x9 - x11 : Int32).toInt64)), (6, .long ((x5 - x7 : Int32).toInt64)), (4, .long ((x1 - x3 : Int32).toInt64)), (0, .ref (o 0)), (1, .int a1), (2, .int a2), (3, .int a3)]) hx hb dX7_layMiddle_79 hl (by decide) rfl (fun ls hl => ?_)
    refine lv_lload hx hb dX7_layMiddle_81 (lv_at hl 4 rfl) ?_
    refine lv_lload hx hb dX7_layMiddle_83 (lv_at hl 4 rfl) ?_
    refine lv_lmul hx hb dX7_layMiddle_85 ?_
    refine lv_lload hx hb dX7_layMiddle_86 (lv_at hl 3 rfl) ?_
    refine lv_lload hx hb dX7_layMiddle_88 (lv_at hl 3 rfl) ?_
    refine lv_lmul hx hb dX7_layMiddle_90 ?_
    refine lv_ladd hx hb dX7_layMiddle_91 ?_
    obtain ⟨y19, e20, hf⟩ := bn1_e hf
    refine w_nml (sm1 e20) ?_
    refine lv_lstore (lv' := [(14, .long y19), (12, .long y17), (10, .long ((x13 - x15 : Int32).toInt64)), (8, .long ((x9 - x11 : Int32).toInt64)), (6, .long ((x5 - x7 : Int32).toInt64)), (4, .long ((x1 - x3 : Int32).toInt64)), (0, .ref (o 0)), (1, .int a1), (2, .int a2), (3, .int a3)]) hx hb dX7_layMiddle_92 hl (by decide) rfl (fun ls hl => ?_)
    refine lv_lload hx hb dX7_layMiddle_94 (lv_at hl 3 rfl) ?_
    refine lv_lload hx hb dX7_layMiddle_96 (lv_at hl 3 rfl) ?_
    refine lv_lmul hx hb dX7_layMiddle_98 ?_
    refine lv_lload hx hb dX7_layMiddle_99 (lv_at hl 2 rfl) ?_
    refine lv_lload hx hb dX7_layMiddle_101 (lv_at hl 2 rfl) ?_
    refine lv_lmul hx hb dX7_layMiddle_103 ?_
    refine lv_ladd hx hb dX7_layMiddle_104 ?_
    obtain ⟨y21, e22, hf⟩ := bn1_e hf
    refine w_nml (sm1 e22) ?_
    refine lv_lstore (lv' := [(16, .long y21), (14, .long y19), (12, .long y17), (10, .long ((x13 - x15 : Int32).toInt64)), (8, .long ((x9 - x11 : Int32).toInt64)), (6, .long ((x5 - x7 : Int32).toInt64)), (4, .long ((x1 - x3 : Int32).toInt64)), (0, .ref (o 0)), (1, .int a1), (2, .int a2), (3, .int a3)]) hx hb dX7_layMiddle_105 hl (by decide) rfl (fun ls hl => ?_)
    refine lv_aload_n hx hb dX7_layMiddle_107 rfl (lv_at hl 7 rfl) ?_
    refine lv_lload hx hb dX7_layMiddle_108 (lv_at hl 2 rfl) ?_
    refine lv_lconst (v := 0) hx hb dX7_layMiddle_110 (by decide) ?_
    refine W.lcmp hx hb dX7_layMiddle_111 ?_
    refine lv_if_ge (tgt := 121) hx hb dX7_layMiddle_112 (by decide) (fun c23 => ?_) (fun c23 => ?_)
    · have hf := if_t c23 hf
      refine lv_lload hx hb dX7_layMiddle_121 (lv_at hl 2 rfl) ?_
      refine w_put (ws' := (wX7 o cA ((sL oM 30 y17)))) hx hb hts hi7 tyX7 tyX7_ok nmX7 hown hK hw 0 rfl rfl 30 (by decide) q3 rfl rfl rfl rfl (Nat.le_of_ble_eq_true rfl) rfl dX7_layMiddle_123 (fun H locs hw => ?_)
      refine lv_lload hx hb dX7_layMiddle_126 (lv_at hl 2 rfl) ?_
      refine lv_lconst (v := 0) hx hb dX7_layMiddle_128 (by decide) ?_
      refine W.lcmp hx hb dX7_layMiddle_129 ?_
      refine lv_if_ge (tgt := 139) hx hb dX7_layMiddle_130 (by decide) (fun c24 => ?_) (fun c24 => ?_)
      · have hf := if_t c24 hf
        refine lv_lconst (v := 1) hx hb dX7_layMiddle_139 (by decide) ?_
        refine lv_lstore (lv' := [(18, .long 1), (16, .long y21), (14, .long y19), (12, .long y17), (10, .long ((x13 - x15 : Int32).toInt64)), (8, .long ((x9 - x11 : Int32).toInt64)), (6, .long ((x5 - x7 : Int32).toInt64)), (4, .long ((x1 - x3 : Int32).toInt64)), (0, .ref (o 0)), (1, .int a1), (2, .int a2), (3, .int a3)]) hx hb dX7_layMiddle_140 hl (by decide) rfl (fun ls hl => ?_)
        refine lv_aload_n hx hb dX7_layMiddle_142 rfl (lv_at hl 8 rfl) ?_
        refine lv_lload hx hb dX7_layMiddle_143 (lv_at hl 0 rfl) ?_
        refine lv_lload hx hb dX7_layMiddle_145 (lv_at hl 4 rfl) ?_
        refine lv_lload hx hb dX7_layMiddle_147 (lv_at hl 2 rfl) ?_
        refine lv_lmul hx hb dX7_layMiddle_149 ?_
        refine lv_lload hx hb dX7_layMiddle_150 (lv_at hl 6 rfl) ?_
        refine lv_lload hx hb dX7_layMiddle_152 (lv_at hl 1 rfl) ?_
        refine lv_lmul hx hb dX7_layMiddle_154 ?_
        refine lv_lsub hx hb dX7_layMiddle_155 ?_
        refine lv_lmul hx hb dX7_layMiddle_156 ?_
        refine lv_aload_n hx hb dX7_layMiddle_157 rfl (lv_at hl 8 rfl) ?_
        refine w_get hx hb hts hi7 hown hK hw 0 rfl rfl 6 (by decide) q0 rfl (v := .ref (o 2)) rfl dX7_layMiddle_158 ?_
        refine lv_iload_n hx hb dX7_layMiddle_161 rfl (lv_at hl 9 rfl) ?_
        obtain ⟨x25, g26, hf⟩ := bn1_e hf
        refine w_ald hx hb hK hw 2 rfl g26 dX7_layMiddle_162 ?_
        refine lv_i2l (v := (x25 : Int32).toInt64) hx hb dX7_layMiddle_163 rfl ?_
        refine lv_aload_n hx hb dX7_layMiddle_164 rfl (lv_at hl 8 rfl) ?_
        refine w_get hx hb hts hi7 hown hK hw 0 rfl rfl 30 (by decide) q3 rfl (v := .long y17) rfl dX7_layMiddle_165 ?_
        refine lv_lmul hx hb dX7_layMiddle_168 ?_
        refine lv_ladd hx hb dX7_layMiddle_169 ?_
        obtain ⟨y27, e28, hf⟩ := bn1_e hf
        refine w_nml (sm1 e28) ?_
        refine w_put (ws' := (wX7 o cA ((sL (sL oM 30 y17) 31 y27)))) hx hb hts hi7 tyX7 tyX7_ok nmX7 hown hK hw 0 rfl rfl 31 (by decide) q4 rfl rfl rfl rfl (Nat.le_of_ble_eq_true rfl) rfl dX7_layMiddle_170 (fun H locs hw => ?_)
        refine lv_aload_n hx hb dX7_layMiddle_173 rfl (lv_at hl 8 rfl) ?_
        refine lv_lload hx hb dX7_layMiddle_174 (lv_at hl 0 rfl) ?_
        refine lv_lload hx hb dX7_layMiddle_176 (lv_at hl 7 rfl) ?_
        refine lv_lload hx hb dX7_layMiddle_178 (lv_at hl 1 rfl) ?_
        refine lv_lmul hx hb dX7_layMiddle_180 ?_
        refine lv_lload hx hb dX7_layMiddle_181 (lv_at hl 5 rfl) ?_
        refine lv_lload hx hb dX7_layMiddle_183 (lv_at hl 2 rfl) ?_
        refine lv_lmul hx hb dX7_layMiddle_185 ?_
        refine lv_lsub hx hb dX7_layMiddle_186 ?_
        refine lv_lmul hx hb dX7_layMiddle_187 ?_
        refine lv_aload_n hx hb dX7_layMiddle_188 rfl (lv_at hl 8 rfl) ?_
        refine w_get hx hb hts hi7 hown hK hw 0 rfl rfl 7 (by decide) q1 rfl (v := .ref (o 3)) rfl dX7_layMiddle_189 ?_
        refine lv_iload_n hx hb dX7_layMiddle_192 rfl (lv_at hl 9 rfl) ?_
        obtain ⟨x29, g30, hf⟩ := bn1_e hf
        refine w_ald hx hb hK hw 3 rfl g30 dX7_layMiddle_193 ?_
        refine lv_i2l (v := (x29 : Int32).toInt64) hx hb dX7_layMiddle_194 rfl ?_
        refine lv_aload_n hx hb dX7_layMiddle_195 rfl (lv_at hl 8 rfl) ?_
        refine w_get hx hb hts hi7 hown hK hw 0 rfl rfl 30 (by decide) q3 rfl (v := .long y17) rfl dX7_layMiddle_196 ?_
        refine lv_lmul hx hb dX7_layMiddle_199 ?_
        refine lv_ladd hx hb dX7_layMiddle_200 ?_
        obtain ⟨y31, e32, hf⟩ := bn1_e hf
        refine w_nml (sm1 e32) ?_
        refine w_put (ws' := (wX7 o cA ((sL (sL (sL oM 30 y17) 31 y27) 32 y31)))) hx hb hts hi7 tyX7 tyX7_ok nmX7 hown hK hw 0 rfl rfl 32 (by decide) q5 rfl rfl rfl rfl (Nat.le_of_ble_eq_true rfl) rfl dX7_layMiddle_201 (fun H locs hw => ?_)
        refine lv_lload hx hb dX7_layMiddle_204 (lv_at hl 3 rfl) ?_
        refine lv_lconst (v := 0) hx hb dX7_layMiddle_206 (by decide) ?_
        refine W.lcmp hx hb dX7_layMiddle_207 ?_
        refine lv_if_eq (tgt := 215) hx hb dX7_layMiddle_208 (by decide) (fun c33 => ?_) (fun c33 => ?_)
        · have hf := if_t c33 hf
          refine lv_iconst (v := 0) hx hb dX7_layMiddle_215 (by decide) ?_
          obtain ⟨e0_, e1_⟩ := sm2 hf
          exact hret _ _ _ _ _ (by rw [← e1_]; exact hw) e0_ (Or.inr (Or.inl rfl)) dX7_layMiddle_216
        · have hf := if_f c33 hf
          refine lv_iconst (v := 1) hx hb dX7_layMiddle_211 (by decide) ?_
          refine lv_goto (tgt := 216) hx hb dX7_layMiddle_212 (by decide) ?_
          obtain ⟨e0_, e1_⟩ := sm2 hf
          exact hret _ _ _ _ _ (by rw [← e1_]; exact hw) e0_ (Or.inr (Or.inr rfl)) dX7_layMiddle_216
      · have hf := if_f c24 hf
        refine lv_ldc2 hx hb hown q6 dX7_layMiddle_133 ?_
        refine lv_goto (tgt := 140) hx hb dX7_layMiddle_136 (by decide) ?_
        refine lv_lstore (lv' := [(18, .long ((-1))), (16, .long y21), (14, .long y19), (12, .long y17), (10, .long ((x13 - x15 : Int32).toInt64)), (8, .long ((x9 - x11 : Int32).toInt64)), (6, .long ((x5 - x7 : Int32).toInt64)), (4, .long ((x1 - x3 : Int32).toInt64)), (0, .ref (o 0)), (1, .int a1), (2, .int a2), (3, .int a3)]) hx hb dX7_layMiddle_140 hl (by decide) rfl (fun ls hl => ?_)
        refine lv_aload_n hx hb dX7_layMiddle_142 rfl (lv_at hl 8 rfl) ?_
        refine lv_lload hx hb dX7_layMiddle_143 (lv_at hl 0 rfl) ?_
        refine lv_lload hx hb dX7_layMiddle_145 (lv_at hl 4 rfl) ?_
        refine lv_lload hx hb dX7_layMiddle_147 (lv_at hl 2 rfl) ?_
        refine lv_lmul hx hb dX7_layMiddle_149 ?_
        refine lv_lload hx hb dX7_layMiddle_150 (lv_at hl 6 rfl) ?_
        refine lv_lload hx hb dX7_layMiddle_152 (lv_at hl 1 rfl) ?_
        refine lv_lmul hx hb dX7_layMiddle_154 ?_
        refine lv_lsub hx hb dX7_layMiddle_155 ?_
        refine lv_lmul hx hb dX7_layMiddle_156 ?_
        refine lv_aload_n hx hb dX7_layMiddle_157 rfl (lv_at hl 8 rfl) ?_
        refine w_get hx hb hts hi7 hown hK hw 0 rfl rfl 6 (by decide) q0 rfl (v := .ref (o 2)) rfl dX7_layMiddle_158 ?_
        refine lv_iload_n hx hb dX7_layMiddle_161 rfl (lv_at hl 9 rfl) ?_
        obtain ⟨x34, g35, hf⟩ := bn1_e hf
        refine w_ald hx hb hK hw 2 rfl g35 dX7_layMiddle_162 ?_
        refine lv_i2l (v := (x34 : Int32).toInt64) hx hb dX7_layMiddle_163 rfl ?_
        refine lv_aload_n hx hb dX7_layMiddle_164 rfl (lv_at hl 8 rfl) ?_
        refine w_get hx hb hts hi7 hown hK hw 0 rfl rfl 30 (by decide) q3 rfl (v := .long y17) rfl dX7_layMiddle_165 ?_
        refine lv_lmul hx hb dX7_layMiddle_168 ?_
        refine lv_ladd hx hb dX7_layMiddle_169 ?_
        obtain ⟨y36, e37, hf⟩ := bn1_e hf
        refine w_nml (sm1 e37) ?_
        refine w_put (ws' := (wX7 o cA ((sL (sL oM 30 y17) 31 y36)))) hx hb hts hi7 tyX7 tyX7_ok nmX7 hown hK hw 0 rfl rfl 31 (by decide) q4 rfl rfl rfl rfl (Nat.le_of_ble_eq_true rfl) rfl dX7_layMiddle_170 (fun H locs hw => ?_)
        refine lv_aload_n hx hb dX7_layMiddle_173 rfl (lv_at hl 8 rfl) ?_
        refine lv_lload hx hb dX7_layMiddle_174 (lv_at hl 0 rfl) ?_
        refine lv_lload hx hb dX7_layMiddle_176 (lv_at hl 7 rfl) ?_
        refine lv_lload hx hb dX7_layMiddle_178 (lv_at hl 1 rfl) ?_
        refine lv_lmul hx hb dX7_layMiddle_180 ?_
        refine lv_lload hx hb dX7_layMiddle_181 (lv_at hl 5 rfl) ?_
        refine lv_lload hx hb dX7_layMiddle_183 (lv_at hl 2 rfl) ?_
        refine lv_lmul hx hb dX7_layMiddle_185 ?_
        refine lv_lsub hx hb dX7_layMiddle_186 ?_
        refine lv_lmul hx hb dX7_layMiddle_187 ?_
        refine lv_aload_n hx hb dX7_layMiddle_188 rfl (lv_at hl 8 rfl) ?_
        refine w_get hx hb hts hi7 hown hK hw 0 rfl rfl 7 (by decide) q1 rfl (v := .ref (o 3)) rfl dX7_layMiddle_189 ?_
        refine lv_iload_n hx hb dX7_layMiddle_192 rfl (lv_at hl 9 rfl) ?_
        obtain ⟨x38, g39, hf⟩ := bn1_e hf
        refine w_ald hx hb hK hw 3 rfl g39 dX7_layMiddle_193 ?_
        refine lv_i2l (v := (x38 : Int32).toInt64) hx hb dX7_layMiddle_194 rfl ?_
        refine lv_aload_n hx hb dX7_layMiddle_195 rfl (lv_at hl 8 rfl) ?_
        refine w_get hx hb hts hi7 hown hK hw 0 rfl rfl 30 (by decide) q3 rfl (v := .long y17) rfl dX7_layMiddle_196 ?_
        refine lv_lmul hx hb dX7_layMiddle_199 ?_
        refine lv_ladd hx hb dX7_layMiddle_200 ?_
        obtain ⟨y40, e41, hf⟩ := bn1_e hf
        refine w_nml (sm1 e41) ?_
        refine w_put (ws' := (wX7 o cA ((sL (sL (sL oM 30 y17) 31 y36) 32 y40)))) hx hb hts hi7 tyX7 tyX7_ok nmX7 hown hK hw 0 rfl rfl 32 (by decide) q5 rfl rfl rfl rfl (Nat.le_of_ble_eq_true rfl) rfl dX7_layMiddle_201 (fun H locs hw => ?_)
        refine lv_lload hx hb dX7_layMiddle_204 (lv_at hl 3 rfl) ?_
        refine lv_lconst (v := 0) hx hb dX7_layMiddle_206 (by decide) ?_
        refine W.lcmp hx hb dX7_layMiddle_207 ?_
        refine lv_if_eq (tgt := 215) hx hb dX7_layMiddle_208 (by decide) (fun c42 => ?_) (fun c42 => ?_)
        · have hf := if_t c42 hf
          refine lv_iconst (v := 0) hx hb dX7_layMiddle_215 (by decide) ?_
          obtain ⟨e0_, e1_⟩ := sm2 hf
          exact hret _ _ _ _ _ (by rw [← e1_]; exact hw) e0_ (Or.inr (Or.inl rfl)) dX7_layMiddle_216
        · have hf := if_f c42 hf
          refine lv_iconst (v := 1) hx hb dX7_layMiddle_211 (by decide) ?_
          refine lv_goto (tgt := 216) hx hb dX7_layMiddle_212 (by decide) ?_
          obtain ⟨e0_, e1_⟩ := sm2 hf
          exact hret _ _ _ _ _ (by rw [← e1_]; exact hw) e0_ (Or.inr (Or.inr rfl)) dX7_layMiddle_216
    · have hf := if_f c23 hf
      refine lv_lload hx hb dX7_layMiddle_115 (lv_at hl 2 rfl) ?_
      refine lv_lneg hx hb dX7_layMiddle_117 ?_
      refine lv_goto (tgt := 123) hx hb dX7_layMiddle_118 (by decide) ?_
      refine w_put (ws' := (wX7 o cA ((sL oM 30 (-y17))))) hx hb hts hi7 tyX7 tyX7_ok nmX7 hown hK hw 0 rfl rfl 30 (by decide) q3 rfl rfl rfl rfl (Nat.le_of_ble_eq_true rfl) rfl dX7_layMiddle_123 (fun H locs hw => ?_)
      refine lv_lload hx hb dX7_layMiddle_126 (lv_at hl 2 rfl) ?_
      refine lv_lconst (v := 0) hx hb dX7_layMiddle_128 (by decide) ?_
      refine W.lcmp hx hb dX7_layMiddle_129 ?_
      refine lv_if_ge (tgt := 139) hx hb dX7_layMiddle_130 (by decide) (fun c43 => ?_) (fun c43 => ?_)
      · have hf := if_t c43 hf
        refine lv_lconst (v := 1) hx hb dX7_layMiddle_139 (by decide) ?_
        refine lv_lstore (lv' := [(18, .long 1), (16, .long y21), (14, .long y19), (12, .long y17), (10, .long ((x13 - x15 : Int32).toInt64)), (8, .long ((x9 - x11 : Int32).toInt64)), (6, .long ((x5 - x7 : Int32).toInt64)), (4, .long ((x1 - x3 : Int32).toInt64)), (0, .ref (o 0)), (1, .int a1), (2, .int a2), (3, .int a3)]) hx hb dX7_layMiddle_140 hl (by decide) rfl (fun ls hl => ?_)
        refine lv_aload_n hx hb dX7_layMiddle_142 rfl (lv_at hl 8 rfl) ?_
        refine lv_lload hx hb dX7_layMiddle_143 (lv_at hl 0 rfl) ?_
        refine lv_lload hx hb dX7_layMiddle_145 (lv_at hl 4 rfl) ?_
        refine lv_lload hx hb dX7_layMiddle_147 (lv_at hl 2 rfl) ?_
        refine lv_lmul hx hb dX7_layMiddle_149 ?_
        refine lv_lload hx hb dX7_layMiddle_150 (lv_at hl 6 rfl) ?_
        refine lv_lload hx hb dX7_layMiddle_152 (lv_at hl 1 rfl) ?_
        refine lv_lmul hx hb dX7_layMiddle_154 ?_
        refine lv_lsub hx hb dX7_layMiddle_155 ?_
        refine lv_lmul hx hb dX7_layMiddle_156 ?_
        refine lv_aload_n hx hb dX7_layMiddle_157 rfl (lv_at hl 8 rfl) ?_
        refine w_get hx hb hts hi7 hown hK hw 0 rfl rfl 6 (by decide) q0 rfl (v := .ref (o 2)) rfl dX7_layMiddle_158 ?_
        refine lv_iload_n hx hb dX7_layMiddle_161 rfl (lv_at hl 9 rfl) ?_
        obtain ⟨x44, g45, hf⟩ := bn1_e hf
        refine w_ald hx hb hK hw 2 rfl g45 dX7_layMiddle_162 ?_
        refine lv_i2l (v := (x44 : Int32).toInt64) hx hb dX7_layMiddle_163 rfl ?_
        refine lv_aload_n hx hb dX7_layMiddle_164 rfl (lv_at hl 8 rfl) ?_
        refine w_get hx hb hts hi7 hown hK hw 0 rfl rfl 30 (by decide) q3 rfl (v := .long (-y17)) rfl dX7_layMiddle_165 ?_
        refine lv_lmul hx hb dX7_layMiddle_168 ?_
        refine lv_ladd hx hb dX7_layMiddle_169 ?_
        obtain ⟨y46, e47, hf⟩ := bn1_e hf
        refine w_nml (sm1 e47) ?_
        refine w_put (ws' := (wX7 o cA ((sL (sL oM 30 (-y17)) 31 y46)))) hx hb hts hi7 tyX7 tyX7_ok nmX7 hown hK hw 0 rfl rfl 31 (by decide) q4 rfl rfl rfl rfl (Nat.le_of_ble_eq_true rfl) rfl dX7_layMiddle_170 (fun H locs hw => ?_)
        refine lv_aload_n hx hb dX7_layMiddle_173 rfl (lv_at hl 8 rfl) ?_
        refine lv_lload hx hb dX7_layMiddle_174 (lv_at hl 0 rfl) ?_
        refine lv_lload hx hb dX7_layMiddle_176 (lv_at hl 7 rfl) ?_
        refine lv_lload hx hb dX7_layMiddle_178 (lv_at hl 1 rfl) ?_
        refine lv_lmul hx hb dX7_layMiddle_180 ?_
        refine lv_lload hx hb dX7_layMiddle_181 (lv_at hl 5 rfl) ?_
        refine lv_lload hx hb dX7_layMiddle_183 (lv_at hl 2 rfl) ?_
        refine lv_lmul hx hb dX7_layMiddle_185 ?_
        refine lv_lsub hx hb dX7_layMiddle_186 ?_
        refine lv_lmul hx hb dX7_layMiddle_187 ?_
        refine lv_aload_n hx hb dX7_layMiddle_188 rfl (lv_at hl 8 rfl) ?_
        refine w_get hx hb hts hi7 hown hK hw 0 rfl rfl 7 (by decide) q1 rfl (v := .ref (o 3)) rfl dX7_layMiddle_189 ?_
        refine lv_iload_n hx hb dX7_layMiddle_192 rfl (lv_at hl 9 rfl) ?_
        obtain ⟨x48, g49, hf⟩ := bn1_e hf
        refine w_ald hx hb hK hw 3 rfl g49 dX7_layMiddle_193 ?_
        refine lv_i2l (v := (x48 : Int32).toInt64) hx hb dX7_layMiddle_194 rfl ?_
        refine lv_aload_n hx hb dX7_layMiddle_195 rfl (lv_at hl 8 rfl) ?_
        refine w_get hx hb hts hi7 hown hK hw 0 rfl rfl 30 (by decide) q3 rfl (v := .long (-y17)) rfl dX7_layMiddle_196 ?_
        refine lv_lmul hx hb dX7_layMiddle_199 ?_
        refine lv_ladd hx hb dX7_layMiddle_200 ?_
        obtain ⟨y50, e51, hf⟩ := bn1_e hf
        refine w_nml (sm1 e51) ?_
        refine w_put (ws' := (wX7 o cA ((sL (sL (sL oM 30 (-y17)) 31 y46) 32 y50)))) hx hb hts hi7 tyX7 tyX7_ok nmX7 hown hK hw 0 rfl rfl 32 (by decide) q5 rfl rfl rfl rfl (Nat.le_of_ble_eq_true rfl) rfl dX7_layMiddle_201 (fun H locs hw => ?_)
        refine lv_lload hx hb dX7_layMiddle_204 (lv_at hl 3 rfl) ?_
        refine lv_lconst (v := 0) hx hb dX7_layMiddle_206 (by decide) ?_
        refine W.lcmp hx hb dX7_layMiddle_207 ?_
        refine lv_if_eq (tgt := 215) hx hb dX7_layMiddle_208 (by decide) (fun c52 => ?_) (fun c52 => ?_)
        · have hf := if_t c52 hf
          refine lv_iconst (v := 0) hx hb dX7_layMiddle_215 (by decide) ?_
          obtain ⟨e0_, e1_⟩ := sm2 hf
          exact hret _ _ _ _ _ (by rw [← e1_]; exact hw) e0_ (Or.inr (Or.inl rfl)) dX7_layMiddle_216
        · have hf := if_f c52 hf
          refine lv_iconst (v := 1) hx hb dX7_layMiddle_211 (by decide) ?_
          refine lv_goto (tgt := 216) hx hb dX7_layMiddle_212 (by decide) ?_
          obtain ⟨e0_, e1_⟩ := sm2 hf
          exact hret _ _ _ _ _ (by rw [← e1_]; exact hw) e0_ (Or.inr (Or.inr rfl)) dX7_layMiddle_216
      · have hf := if_f c43 hf
        refine lv_ldc2 hx hb hown q6 dX7_layMiddle_133 ?_
        refine lv_goto (tgt := 140) hx hb dX7_layMiddle_136 (by decide) ?_
        refine lv_lstore (lv' := [(18, .long ((-1))), (16, .long y21), (14, .long y19), (12, .long y17), (10, .long ((x13 - x15 : Int32).toInt64)), (8, .long ((x9 - x11 : Int32).toInt64)), (6, .long ((x5 - x7 : Int32).toInt64)), (4, .long ((x1 - x3 : Int32).toInt64)), (0, .ref (o 0)), (1, .int a1), (2, .int a2), (3, .int a3)]) hx hb dX7_layMiddle_140 hl (by decide) rfl (fun ls hl => ?_)
        refine lv_aload_n hx hb dX7_layMiddle_142 rfl (lv_at hl 8 rfl) ?_
        refine lv_lload hx hb dX7_layMiddle_143 (lv_at hl 0 rfl) ?_
        refine lv_lload hx hb dX7_layMiddle_145 (lv_at hl 4 rfl) ?_
        refine lv_lload hx hb dX7_layMiddle_147 (lv_at hl 2 rfl) ?_
        refine lv_lmul hx hb dX7_layMiddle_149 ?_
        refine lv_lload hx hb dX7_layMiddle_150 (lv_at hl 6 rfl) ?_
        refine lv_lload hx hb dX7_layMiddle_152 (lv_at hl 1 rfl) ?_
        refine lv_lmul hx hb dX7_layMiddle_154 ?_
        refine lv_lsub hx hb dX7_layMiddle_155 ?_
        refine lv_lmul hx hb dX7_layMiddle_156 ?_
        refine lv_aload_n hx hb dX7_layMiddle_157 rfl (lv_at hl 8 rfl) ?_
        refine w_get hx hb hts hi7 hown hK hw 0 rfl rfl 6 (by decide) q0 rfl (v := .ref (o 2)) rfl dX7_layMiddle_158 ?_
        refine lv_iload_n hx hb dX7_layMiddle_161 rfl (lv_at hl 9 rfl) ?_
        obtain ⟨x53, g54, hf⟩ := bn1_e hf
        refine w_ald hx hb hK hw 2 rfl g54 dX7_layMiddle_162 ?_
        refine lv_i2l (v := (x53 : Int32).toInt64) hx hb dX7_layMiddle_163 rfl ?_
        refine lv_aload_n hx hb dX7_layMiddle_164 rfl (lv_at hl 8 rfl) ?_
        refine w_get hx hb hts hi7 hown hK hw 0 rfl rfl 30 (by decide) q3 rfl (v := .long (-y17)) rfl dX7_layMiddle_165 ?_
        refine lv_lmul hx hb dX7_layMiddle_168 ?_
        refine lv_ladd hx hb dX7_layMiddle_169 ?_
        obtain ⟨y55, e56, hf⟩ := bn1_e hf
        refine w_nml (sm1 e56) ?_
        refine w_put (ws' := (wX7 o cA ((sL (sL oM 30 (-y17)) 31 y55)))) hx hb hts hi7 tyX7 tyX7_ok nmX7 hown hK hw 0 rfl rfl 31 (by decide) q4 rfl rfl rfl rfl (Nat.le_of_ble_eq_true rfl) rfl dX7_layMiddle_170 (fun H locs hw => ?_)
        refine lv_aload_n hx hb dX7_layMiddle_173 rfl (lv_at hl 8 rfl) ?_
        refine lv_lload hx hb dX7_layMiddle_174 (lv_at hl 0 rfl) ?_
        refine lv_lload hx hb dX7_layMiddle_176 (lv_at hl 7 rfl) ?_
        refine lv_lload hx hb dX7_layMiddle_178 (lv_at hl 1 rfl) ?_
        refine lv_lmul hx hb dX7_layMiddle_180 ?_
        refine lv_lload hx hb dX7_layMiddle_181 (lv_at hl 5 rfl) ?_
        refine lv_lload hx hb dX7_layMiddle_183 (lv_at hl 2 rfl) ?_
        refine lv_lmul hx hb dX7_layMiddle_185 ?_
        refine lv_lsub hx hb dX7_layMiddle_186 ?_
        refine lv_lmul hx hb dX7_layMiddle_187 ?_
        refine lv_aload_n hx hb dX7_layMiddle_188 rfl (lv_at hl 8 rfl) ?_
        refine w_get hx hb hts hi7 hown hK hw 0 rfl rfl 7 (by decide) q1 rfl (v := .ref (o 3)) rfl dX7_layMiddle_189 ?_
        refine lv_iload_n hx hb dX7_layMiddle_192 rfl (lv_at hl 9 rfl) ?_
        obtain ⟨x57, g58, hf⟩ := bn1_e hf
        refine w_ald hx hb hK hw 3 rfl g58 dX7_layMiddle_193 ?_
        refine lv_i2l (v := (x57 : Int32).toInt64) hx hb dX7_layMiddle_194 rfl ?_
        refine lv_aload_n hx hb dX7_layMiddle_195 rfl (lv_at hl 8 rfl) ?_
        refine w_get hx hb hts hi7 hown hK hw 0 rfl rfl 30 (by decide) q3 rfl (v := .long (-y17)) rfl dX7_layMiddle_196 ?_
        refine lv_lmul hx hb dX7_layMiddle_199 ?_
        refine lv_ladd hx hb dX7_layMiddle_200 ?_
        obtain ⟨y59, e60, hf⟩ := bn1_e hf
        refine w_nml (sm1 e60) ?_
        refine w_put (ws' := (wX7 o cA ((sL (sL (sL oM 30 (-y17)) 31 y55) 32 y59)))) hx hb hts hi7 tyX7 tyX7_ok nmX7 hown hK hw 0 rfl rfl 32 (by decide) q5 rfl rfl rfl rfl (Nat.le_of_ble_eq_true rfl) rfl dX7_layMiddle_201 (fun H locs hw => ?_)
        refine lv_lload hx hb dX7_layMiddle_204 (lv_at hl 3 rfl) ?_
        refine lv_lconst (v := 0) hx hb dX7_layMiddle_206 (by decide) ?_
        refine W.lcmp hx hb dX7_layMiddle_207 ?_
        refine lv_if_eq (tgt := 215) hx hb dX7_layMiddle_208 (by decide) (fun c61 => ?_) (fun c61 => ?_)
        · have hf := if_t c61 hf
          refine lv_iconst (v := 0) hx hb dX7_layMiddle_215 (by decide) ?_
          obtain ⟨e0_, e1_⟩ := sm2 hf
          exact hret _ _ _ _ _ (by rw [← e1_]; exact hw) e0_ (Or.inr (Or.inl rfl)) dX7_layMiddle_216
        · have hf := if_f c61 hf
          refine lv_iconst (v := 1) hx hb dX7_layMiddle_211 (by decide) ?_
          refine lv_goto (tgt := 216) hx hb dX7_layMiddle_212 (by decide) ?_
          obtain ⟨e0_, e1_⟩ := sm2 hf
          exact hret _ _ _ _ _ (by rw [← e1_]; exact hw) e0_ (Or.inr (Or.inr rfl)) dX7_layMiddle_216
  rw [hH, hlc] at goal
  exact goal
abbrev rmX7_agrees : Room := { frames := 1, cells := 0, slots := 0, locals := 20 }
theorem hd_X7_agrees : yX7_agrees.cls = RX7 ∧ yX7_agrees.cls ≠ "java/lang/invoke/MethodHandle" ∧ yX7_agrees.cls ≠ "java/lang/invoke/VarHandle" ∧ (parseMethodDescriptor yX7_agrees.desc).map (fun d => d.parameters.length) = some 4 := by decide +kernel
set_option maxHeartbeats 4000000 in
set_option maxRecDepth 100000 in
theorem k_X7_agrees (l : Launch) (D : va_G) (cA : ClassId) (o : Nat → Nat) (oM : St) (a1 : Int64) (a3 : Int64) (a5 : Int64) (a7 : Int32) (r : Int32) (hf : f_X7_agrees oM a1 a3 a5 a7 = some (r)) : Mi l yX7_agrees wsX7_agrees rmX7_agrees D cA z_0 [.ref (o 0), .long a1, .long a3, .long a5, .int a7] (wX7 o cA oM) r (wX7 o cA oM) := by
  refine Mi.of (cc := cX7_agrees) (maxL := 18) (ret := (some .boolean)) (plainFor_of_name (by decide)) rfl (Nat.le_of_ble_eq_true rfl) (Or.inr rfl) ?_
  intro p e s m below meth c A Q hx hb hml hown hts hK hA hZ hret ls hl hw
  replace hown : s.vm.findClass RX7 = some m.cls := hown
  have hl : lv_has ls 18 [(0, .ref (o 0)), (1, .long a1), (3, .long a3), (5, .long a5), (7, .int a7)] := hl
  have hZo := z_0_ok
  have hi7 : ∀ w ∈ wsX70, w ∈ wsX7_agrees := fun w h => List.mem_cons_of_mem _ (List.mem_append_right _ h)
  have q0 := hts (.fieldLink RX7 19 "ArcRingsModel" "turnOf" "[I") (by decide +kernel)
  have q1 := hts (.fieldLink RX7 13 "ArcRingsModel" "dotX" "[I") (by decide +kernel)
  have q2 := hts (.fieldLink RX7 16 "ArcRingsModel" "dotY" "[I") (by decide +kernel)
  unfold f_X7_agrees at hf
  obtain ⟨H, hH⟩ : ∃ H, H = s.heap := ⟨_, rfl⟩
  obtain ⟨locs, hlc⟩ : ∃ locs : List Loc, locs = [] := ⟨_, rfl⟩
  have hw : Wd D A s.heap H locs (wX7 o cA oM) := by rw [hH, hlc]; exact hw
  have goal : W p l e rmX7_agrees s m ([.ref (o 0), .long a1, .long a3, .long a5, .int a7] : List Value).toArray below meth c H locs 0 0 Q (F0 m 0 ls []) := by
    clear hH hlc
    refine lv_aload_n hx hb dX7_agrees_0 rfl (lv_at hl 0 rfl) ?_
    refine w_get hx hb hts hi7 hown hK hw 0 rfl rfl 8 (by decide) q0 rfl (v := .ref (o 4)) rfl dX7_agrees_1 ?_
    refine lv_iload hx hb dX7_agrees_4 (lv_at hl 4 rfl) ?_
    obtain ⟨x1, g2, hf⟩ := bn1_e hf
    refine w_ald hx hb hK hw 4 rfl g2 dX7_agrees_6 ?_
    refine lv_iconst (v := (-1)) hx hb dX7_agrees_7 (by decide) ?_
    refine lv_icmp_ne (tgt := 13) hx hb dX7_agrees_8 (by decide) (fun c3 => ?_) (fun c3 => ?_)
    · have hf := if_f c3 hf
      refine lv_lload_n hx hb dX7_agrees_13 rfl (lv_at hl 1 rfl) ?_
      refine lv_aload_n hx hb dX7_agrees_14 rfl (lv_at hl 0 rfl) ?_
      refine w_get hx hb hts hi7 hown hK hw 0 rfl rfl 6 (by decide) q1 rfl (v := .ref (o 2)) rfl dX7_agrees_15 ?_
      refine lv_iload hx hb dX7_agrees_18 (lv_at hl 4 rfl) ?_
      obtain ⟨x4, g5, hf⟩ := bn1_e hf
      refine w_ald hx hb hK hw 2 rfl g5 dX7_agrees_20 ?_
      refine lv_i2l (v := (x4 : Int32).toInt64) hx hb dX7_agrees_21 rfl ?_
      refine lv_lload hx hb dX7_agrees_22 (lv_at hl 3 rfl) ?_
      refine lv_lmul hx hb dX7_agrees_24 ?_
      refine lv_lsub hx hb dX7_agrees_25 ?_
      obtain ⟨y6, e7, hf⟩ := bn1_e hf
      refine w_nml (sm1 e7) ?_
      refine lv_lstore (lv' := [(8, .long y6), (0, .ref (o 0)), (1, .long a1), (3, .long a3), (5, .long a5), (7, .int a7)]) hx hb dX7_agrees_26 hl (by decide) rfl (fun ls hl => ?_)
      refine lv_lload_n hx hb dX7_agrees_28 rfl (lv_at hl 3 rfl) ?_
      refine lv_aload_n hx hb dX7_agrees_29 rfl (lv_at hl 1 rfl) ?_
      refine w_get hx hb hts hi7 hown hK hw 0 rfl rfl 7 (by decide) q2 rfl (v := .ref (o 3)) rfl dX7_agrees_30 ?_
      refine lv_iload hx hb dX7_agrees_33 (lv_at hl 5 rfl) ?_
      obtain ⟨x8, g9, hf⟩ := bn1_e hf
      refine w_ald hx hb hK hw 3 rfl g9 dX7_agrees_35 ?_
      refine lv_i2l (v := (x8 : Int32).toInt64) hx hb dX7_agrees_36 rfl ?_
      refine lv_lload hx hb dX7_agrees_37 (lv_at hl 4 rfl) ?_
      refine lv_lmul hx hb dX7_agrees_39 ?_
      refine lv_lsub hx hb dX7_agrees_40 ?_
      obtain ⟨y10, e11, hf⟩ := bn1_e hf
      refine w_nml (sm1 e11) ?_
      refine lv_lstore (lv' := [(10, .long y10), (8, .long y6), (0, .ref (o 0)), (1, .long a1), (3, .long a3), (5, .long a5), (7, .int a7)]) hx hb dX7_agrees_41 hl (by decide) rfl (fun ls hl => ?_)
      refine lv_aload_n hx hb dX7_agrees_43 rfl (lv_at hl 2 rfl) ?_
      refine w_get hx hb hts hi7 hown hK hw 0 rfl rfl 8 (by decide) q0 rfl (v := .ref (o 4)) rfl dX7_agrees_44 ?_
      refine lv_iload hx hb dX7_agrees_47 (lv_at hl 6 rfl) ?_
      obtain ⟨x12, g13, hf⟩ := bn1_e hf
      refine w_ald hx hb hK hw 4 rfl g13 dX7_agrees_49 ?_
      obtain ⟨x14, g15, hf⟩ := bn1_e hf
      have fr := fr_X7_S o cA oM
      refine go_i (run_s (As := [.int x12]) (rest := []) ⟨hx, hb, hml, hown, hts⟩ (k_X7_turnX l D cA x12 x14 g15 H.size) (va_cwS 1 hts gX7_agrees_X7_turnX rfl rfl rfl hd_X7_turnX ⟨Nat.le_of_ble_eq_true rfl, Nat.le_of_ble_eq_true rfl⟩) fr hw hK hA rfl hl.1 rfl (Nat.le_of_ble_eq_true rfl) dX7_agrees_50 ⟨Nat.zero_le _, Nat.zero_le _⟩) fr hw hA (fun H locs hw => ?_)
      refine lv_istore (lv' := [(12, .int x14), (10, .long y10), (8, .long y6), (0, .ref (o 0)), (1, .long a1), (3, .long a3), (5, .long a5), (7, .int a7)]) hx hb dX7_agrees_53 hl (by decide) rfl (fun ls hl => ?_)
      refine lv_aload_n hx hb dX7_agrees_55 rfl (lv_at hl 3 rfl) ?_
      refine w_get hx hb hts hi7 hown hK hw 0 rfl rfl 8 (by decide) q0 rfl (v := .ref (o 4)) rfl dX7_agrees_56 ?_
      refine lv_iload hx hb dX7_agrees_59 (lv_at hl 7 rfl) ?_
      obtain ⟨x16, g17, hf⟩ := bn1_e hf
      refine w_ald hx hb hK hw 4 rfl g17 dX7_agrees_61 ?_
      obtain ⟨x18, g19, hf⟩ := bn1_e hf
      have fr := fr_X7_S o cA oM
      refine go_i (run_s (As := [.int x16]) (rest := []) ⟨hx, hb, hml, hown, hts⟩ (k_X7_turnY l D cA x16 x18 g19 H.size) (va_cwS 1 hts gX7_agrees_X7_turnY rfl rfl rfl hd_X7_turnY ⟨Nat.le_of_ble_eq_true rfl, Nat.le_of_ble_eq_true rfl⟩) fr hw hK hA rfl hl.1 rfl (Nat.le_of_ble_eq_true rfl) dX7_agrees_62 ⟨Nat.zero_le _, Nat.zero_le _⟩) fr hw hA (fun H locs hw => ?_)
      refine lv_istore (lv' := [(13, .int x18), (12, .int x14), (10, .long y10), (8, .long y6), (0, .ref (o 0)), (1, .long a1), (3, .long a3), (5, .long a5), (7, .int a7)]) hx hb dX7_agrees_65 hl (by decide) rfl (fun ls hl => ?_)
      refine lv_lload hx hb dX7_agrees_67 (lv_at hl 3 rfl) ?_
      refine lv_iload hx hb dX7_agrees_69 (lv_at hl 1 rfl) ?_
      refine lv_i2l (v := (x14 : Int32).toInt64) hx hb dX7_agrees_71 rfl ?_
      refine lv_lmul hx hb dX7_agrees_72 ?_
      refine lv_lload hx hb dX7_agrees_73 (lv_at hl 2 rfl) ?_
      refine lv_iload hx hb dX7_agrees_75 (lv_at hl 0 rfl) ?_
      refine lv_i2l (v := (x18 : Int32).toInt64) hx hb dX7_agrees_77 rfl ?_
      refine lv_lmul hx hb dX7_agrees_78 ?_
      refine lv_ladd hx hb dX7_agrees_79 ?_
      obtain ⟨y20, e21, hf⟩ := bn1_e hf
      refine w_nml (sm1 e21) ?_
      refine lv_lstore (lv' := [(14, .long y20), (13, .int x18), (12, .int x14), (10, .long y10), (8, .long y6), (0, .ref (o 0)), (1, .long a1), (3, .long a3), (5, .long a5), (7, .int a7)]) hx hb dX7_agrees_80 hl (by decide) rfl (fun ls hl => ?_)
      refine lv_lload hx hb dX7_agrees_82 (lv_at hl 4 rfl) ?_
      refine lv_iload hx hb dX7_agrees_84 (lv_at hl 1 rfl) ?_
      refine lv_i2l (v := (x18 : Int32).toInt64) hx hb dX7_agrees_86 rfl ?_
      refine lv_lmul hx hb dX7_agrees_87 ?_
      refine lv_lload hx hb dX7_agrees_88 (lv_at hl 3 rfl) ?_
      refine lv_iload hx hb dX7_agrees_90 (lv_at hl 2 rfl) ?_
      refine lv_i2l (v := (x14 : Int32).toInt64) hx hb dX7_agrees_92 rfl ?_
      refine lv_lmul hx hb dX7_agrees_93 ?_
      refine lv_lsub hx hb dX7_agrees_94 ?_
      obtain ⟨y22, e23, hf⟩ := bn1_e hf
      refine w_nml (sm1 e23) ?_
      refine lv_lstore (lv' := [(16, .long y22), (14, .long y20), (13, .int x18), (12, .int x14), (10, .long y10), (8, .long y6), (0, .ref (o 0)), (1, .long a1), (3, .long a3), (5, .long a5), (7, .int a7)]) hx hb dX7_agrees_95 hl (by decide) rfl (fun ls hl => ?_)
      refine lv_lload hx hb dX7_agrees_97 (lv_at hl 1 rfl) ?_
      refine lv_lconst (v := 0) hx hb dX7_agrees_99 (by decide) ?_
      refine W.lcmp hx hb dX7_agrees_100 ?_
      refine lv_if_le (tgt := 125) hx hb dX7_agrees_101 (by decide) (fun c24 => ?_) (fun c24 => ?_)
      · have hf := if_t c24 hf
        refine lv_iconst (v := 0) hx hb dX7_agrees_125 (by decide) ?_
        have e0_ := sm1 hf
        exact hret _ _ _ _ _ hw e0_ (Or.inr (Or.inl rfl)) dX7_agrees_126
      · have hf := if_f c24 hf
        refine lv_lload hx hb dX7_agrees_104 (lv_at hl 0 rfl) ?_
        refine lv_lload hx hb dX7_agrees_106 (lv_at hl 1 rfl) ?_
        refine W.lcmp hx hb dX7_agrees_108 ?_
        refine lv_if_gt (tgt := 125) hx hb dX7_agrees_109 (by decide) (fun c25 => ?_) (fun c25 => ?_)
        · have hf := if_t c25 hf
          refine lv_iconst (v := 0) hx hb dX7_agrees_125 (by decide) ?_
          have e0_ := sm1 hf
          exact hret _ _ _ _ _ hw e0_ (Or.inr (Or.inl rfl)) dX7_agrees_126
        · have hf := if_f c25 hf
          refine lv_lload hx hb dX7_agrees_112 (lv_at hl 0 rfl) ?_
          refine lv_lneg hx hb dX7_agrees_114 ?_
          refine lv_lload hx hb dX7_agrees_115 (lv_at hl 1 rfl) ?_
          refine W.lcmp hx hb dX7_agrees_117 ?_
          refine lv_if_gt (tgt := 125) hx hb dX7_agrees_118 (by decide) (fun c26 => ?_) (fun c26 => ?_)
          · have hf := if_t c26 hf
            refine lv_iconst (v := 0) hx hb dX7_agrees_125 (by decide) ?_
            have e0_ := sm1 hf
            exact hret _ _ _ _ _ hw e0_ (Or.inr (Or.inl rfl)) dX7_agrees_126
          · have hf := if_f c26 hf
            refine lv_iconst (v := 1) hx hb dX7_agrees_121 (by decide) ?_
            refine lv_goto (tgt := 126) hx hb dX7_agrees_122 (by decide) ?_
            have e0_ := sm1 hf
            exact hret _ _ _ _ _ hw e0_ (Or.inr (Or.inr rfl)) dX7_agrees_126
    · have hf := if_t c3 hf
      refine lv_iconst (v := 1) hx hb dX7_agrees_11 (by decide) ?_
      have e0_ := sm1 hf
      exact hret _ _ _ _ _ hw e0_ (Or.inr (Or.inr rfl)) dX7_agrees_12
  rw [hH, hlc] at goal
  exact goal
abbrev rmX7_agreeing : Room := { frames := 2, cells := 0, slots := 0, locals := 57 }
theorem hd_X7_agreeing : yX7_agreeing.cls = RX7 ∧ yX7_agreeing.cls ≠ "java/lang/invoke/MethodHandle" ∧ yX7_agreeing.cls ≠ "java/lang/invoke/VarHandle" ∧ (parseMethodDescriptor yX7_agreeing.desc).map (fun d => d.parameters.length) = some 3 := by decide +kernel
set_option maxHeartbeats 4000000 in
set_option maxRecDepth 100000 in
theorem k_X7_agreeing (l : Launch) (D : va_G) (cA : ClassId) (o : Nat → Nat) (oM : St) (a1 : Int32) (a2 : Int32) (a3 : Int32) (r : Int32) (hf : f_X7_agreeing oM a1 a2 a3 = some (r)) : Mi l yX7_agreeing wsX7_agreeing rmX7_agreeing D cA z_0 [.ref (o 0), .int a1, .int a2, .int a3] (wX7 o cA oM) r (wX7 o cA oM) := by
  refine Mi.of (cc := cX7_agreeing) (maxL := 4) (ret := (some .int)) (plainFor_of_name (by decide)) rfl (Nat.le_of_ble_eq_true rfl) (Or.inl rfl) ?_
  intro p e s m below meth c A Q hx hb hml hown hts hK hA hZ hret ls hl hw
  replace hown : s.vm.findClass RX7 = some m.cls := hown
  have hl : lv_has ls 4 [(0, .ref (o 0)), (1, .int a1), (2, .int a2), (3, .int a3)] := hl
  have hZo := z_0_ok
  have hi7 : ∀ w ∈ wsX70, w ∈ wsX7_agreeing := fun w h => List.mem_cons_of_mem _ (List.mem_append_right _ h)
  have q0 := hts (.fieldLink RX7 217 "ArcRingsModel" "midX" "J") (by decide +kernel)
  have q1 := hts (.fieldLink RX7 220 "ArcRingsModel" "midY" "J") (by decide +kernel)
  have q2 := hts (.fieldLink RX7 212 "ArcRingsModel" "under" "J") (by decide +kernel)
  unfold f_X7_agreeing at hf
  obtain ⟨H, hH⟩ : ∃ H, H = s.heap := ⟨_, rfl⟩
  obtain ⟨locs, hlc⟩ : ∃ locs : List Loc, locs = [] := ⟨_, rfl⟩
  have hw : Wd D A s.heap H locs (wX7 o cA oM) := by rw [hH, hlc]; exact hw
  have goal : W p l e rmX7_agreeing s m ([.ref (o 0), .int a1, .int a2, .int a3] : List Value).toArray below meth c H locs 0 0 Q (F0 m 0 ls []) := by
    clear hH hlc
    refine lv_aload_n hx hb dX7_agreeing_0 rfl (lv_at hl 0 rfl) ?_
    refine lv_aload_n hx hb dX7_agreeing_1 rfl (lv_at hl 0 rfl) ?_
    refine w_get hx hb hts hi7 hown hK hw 0 rfl rfl 31 (by decide) q0 rfl (v := .long (oM.2.1 31)) rfl dX7_agreeing_2 ?_
    refine lv_aload_n hx hb dX7_agreeing_5 rfl (lv_at hl 0 rfl) ?_
    refine w_get hx hb hts hi7 hown hK hw 0 rfl rfl 32 (by decide) q1 rfl (v := .long (oM.2.1 32)) rfl dX7_agreeing_6 ?_
    refine lv_aload_n hx hb dX7_agreeing_9 rfl (lv_at hl 0 rfl) ?_
    refine w_get hx hb hts hi7 hown hK hw 0 rfl rfl 30 (by decide) q2 rfl (v := .long (oM.2.1 30)) rfl dX7_agreeing_10 ?_
    refine lv_iload_n hx hb dX7_agreeing_13 rfl (lv_at hl 1 rfl) ?_
    obtain ⟨x1, g2, hf⟩ := bn1_e hf
    have fr := fr_X7_X7_oM o cA oM oM
    refine go_i (run_v (As := [.long (oM.2.1 31), .long (oM.2.1 32), .long (oM.2.1 30), .int a1]) (rest := []) ⟨hx, hb, hml, hown, hts⟩ (k_X7_agrees l D cA o oM (oM.2.1 31) (oM.2.1 32) (oM.2.1 30) a1 x1 g2 H.size) (cwV 4 hts gX7_agreeing_X7_agrees rfl rfl rfl hd_X7_agrees ⟨Nat.le_of_ble_eq_true rfl, Nat.le_of_ble_eq_true rfl⟩) fr hw hK hA hZo hZ (ci := 7) rfl rfl rfl rfl hl.1 rfl (Nat.le_of_ble_eq_true rfl) dX7_agreeing_14 ⟨Nat.zero_le _, Nat.zero_le _⟩) fr hw hA (fun H locs hw => ?_)
    refine lv_if_eq (tgt := 24) hx hb dX7_agreeing_17 (by decide) (fun c3 => ?_) (fun c3 => ?_)
    · have hf := if_t c3 hf
      refine lv_iconst (v := 0) hx hb dX7_agreeing_24 (by decide) ?_
      refine lv_aload_n hx hb dX7_agreeing_25 rfl (lv_at hl 0 rfl) ?_
      refine lv_aload_n hx hb dX7_agreeing_26 rfl (lv_at hl 0 rfl) ?_
      refine w_get hx hb hts hi7 hown hK hw 0 rfl rfl 31 (by decide) q0 rfl (v := .long (oM.2.1 31)) rfl dX7_agreeing_27 ?_
      refine lv_aload_n hx hb dX7_agreeing_30 rfl (lv_at hl 0 rfl) ?_
      refine w_get hx hb hts hi7 hown hK hw 0 rfl rfl 32 (by decide) q1 rfl (v := .long (oM.2.1 32)) rfl dX7_agreeing_31 ?_
      refine lv_aload_n hx hb dX7_agreeing_34 rfl (lv_at hl 0 rfl) ?_
      refine w_get hx hb hts hi7 hown hK hw 0 rfl rfl 30 (by decide) q2 rfl (v := .long (oM.2.1 30)) rfl dX7_agreeing_35 ?_
      refine lv_iload_n hx hb dX7_agreeing_38 rfl (lv_at hl 2 rfl) ?_
      obtain ⟨x4, g5, hf⟩ := bn1_e hf
      have fr := fr_X7_X7_oM o cA oM oM
      refine go_i (run_v (As := [.long (oM.2.1 31), .long (oM.2.1 32), .long (oM.2.1 30), .int a2]) (rest := [.int 0]) ⟨hx, hb, hml, hown, hts⟩ (k_X7_agrees l D cA o oM (oM.2.1 31) (oM.2.1 32) (oM.2.1 30) a2 x4 g5 H.size) (cwV 4 hts gX7_agreeing_X7_agrees rfl rfl rfl hd_X7_agrees ⟨Nat.le_of_ble_eq_true rfl, Nat.le_of_ble_eq_true rfl⟩) fr hw hK hA hZo hZ (ci := 7) rfl rfl rfl rfl hl.1 rfl (Nat.le_of_ble_eq_true rfl) dX7_agreeing_39 ⟨Nat.zero_le _, Nat.zero_le _⟩) fr hw hA (fun H locs hw => ?_)
      refine lv_if_eq (tgt := 49) hx hb dX7_agreeing_42 (by decide) (fun c6 => ?_) (fun c6 => ?_)
      · have hf := if_t c6 hf
        refine lv_iconst (v := 0) hx hb dX7_agreeing_49 (by decide) ?_
        refine lv_iadd hx hb dX7_agreeing_50 ?_
        refine lv_aload_n hx hb dX7_agreeing_51 rfl (lv_at hl 0 rfl) ?_
        refine lv_aload_n hx hb dX7_agreeing_52 rfl (lv_at hl 0 rfl) ?_
        refine w_get hx hb hts hi7 hown hK hw 0 rfl rfl 31 (by decide) q0 rfl (v := .long (oM.2.1 31)) rfl dX7_agreeing_53 ?_
        refine lv_aload_n hx hb dX7_agreeing_56 rfl (lv_at hl 0 rfl) ?_
        refine w_get hx hb hts hi7 hown hK hw 0 rfl rfl 32 (by decide) q1 rfl (v := .long (oM.2.1 32)) rfl dX7_agreeing_57 ?_
        refine lv_aload_n hx hb dX7_agreeing_60 rfl (lv_at hl 0 rfl) ?_
        refine w_get hx hb hts hi7 hown hK hw 0 rfl rfl 30 (by decide) q2 rfl (v := .long (oM.2.1 30)) rfl dX7_agreeing_61 ?_
        refine lv_iload_n hx hb dX7_agreeing_64 rfl (lv_at hl 3 rfl) ?_
        obtain ⟨x7, g8, hf⟩ := bn1_e hf
        have fr := fr_X7_X7_oM o cA oM oM
        refine go_i (run_v (As := [.long (oM.2.1 31), .long (oM.2.1 32), .long (oM.2.1 30), .int a3]) (rest := [.int (0 + 0)]) ⟨hx, hb, hml, hown, hts⟩ (k_X7_agrees l D cA o oM (oM.2.1 31) (oM.2.1 32) (oM.2.1 30) a3 x7 g8 H.size) (cwV 4 hts gX7_agreeing_X7_agrees rfl rfl rfl hd_X7_agrees ⟨Nat.le_of_ble_eq_true rfl, Nat.le_of_ble_eq_true rfl⟩) fr hw hK hA hZo hZ (ci := 7) rfl rfl rfl rfl hl.1 rfl (Nat.le_of_ble_eq_true rfl) dX7_agreeing_65 ⟨Nat.zero_le _, Nat.zero_le _⟩) fr hw hA (fun H locs hw => ?_)
        refine lv_if_eq (tgt := 75) hx hb dX7_agreeing_68 (by decide) (fun c9 => ?_) (fun c9 => ?_)
        · have hf := if_t c9 hf
          refine lv_iconst (v := 0) hx hb dX7_agreeing_75 (by decide) ?_
          refine lv_iadd hx hb dX7_agreeing_76 ?_
          have e0_ := sm1 hf
          exact hret _ _ _ _ _ hw e0_ (Or.inl rfl) dX7_agreeing_77
        · have hf := if_f c9 hf
          refine lv_iconst (v := 1) hx hb dX7_agreeing_71 (by decide) ?_
          refine lv_goto (tgt := 76) hx hb dX7_agreeing_72 (by decide) ?_
          refine lv_iadd hx hb dX7_agreeing_76 ?_
          have e0_ := sm1 hf
          exact hret _ _ _ _ _ hw e0_ (Or.inl rfl) dX7_agreeing_77
      · have hf := if_f c6 hf
        refine lv_iconst (v := 1) hx hb dX7_agreeing_45 (by decide) ?_
        refine lv_goto (tgt := 50) hx hb dX7_agreeing_46 (by decide) ?_
        refine lv_iadd hx hb dX7_agreeing_50 ?_
        refine lv_aload_n hx hb dX7_agreeing_51 rfl (lv_at hl 0 rfl) ?_
        refine lv_aload_n hx hb dX7_agreeing_52 rfl (lv_at hl 0 rfl) ?_
        refine w_get hx hb hts hi7 hown hK hw 0 rfl rfl 31 (by decide) q0 rfl (v := .long (oM.2.1 31)) rfl dX7_agreeing_53 ?_
        refine lv_aload_n hx hb dX7_agreeing_56 rfl (lv_at hl 0 rfl) ?_
        refine w_get hx hb hts hi7 hown hK hw 0 rfl rfl 32 (by decide) q1 rfl (v := .long (oM.2.1 32)) rfl dX7_agreeing_57 ?_
        refine lv_aload_n hx hb dX7_agreeing_60 rfl (lv_at hl 0 rfl) ?_
        refine w_get hx hb hts hi7 hown hK hw 0 rfl rfl 30 (by decide) q2 rfl (v := .long (oM.2.1 30)) rfl dX7_agreeing_61 ?_
        refine lv_iload_n hx hb dX7_agreeing_64 rfl (lv_at hl 3 rfl) ?_
        obtain ⟨x10, g11, hf⟩ := bn1_e hf
        have fr := fr_X7_X7_oM o cA oM oM
        refine go_i (run_v (As := [.long (oM.2.1 31), .long (oM.2.1 32), .long (oM.2.1 30), .int a3]) (rest := [.int (0 + 1)]) ⟨hx, hb, hml, hown, hts⟩ (k_X7_agrees l D cA o oM (oM.2.1 31) (oM.2.1 32) (oM.2.1 30) a3 x10 g11 H.size) (cwV 4 hts gX7_agreeing_X7_agrees rfl rfl rfl hd_X7_agrees ⟨Nat.le_of_ble_eq_true rfl, Nat.le_of_ble_eq_true rfl⟩) fr hw hK hA hZo hZ (ci := 7) rfl rfl rfl rfl hl.1 rfl (Nat.le_of_ble_eq_true rfl) dX7_agreeing_65 ⟨Nat.zero_le _, Nat.zero_le _⟩) fr hw hA (fun H locs hw => ?_)
        refine lv_if_eq (tgt := 75) hx hb dX7_agreeing_68 (by decide) (fun c12 => ?_) (fun c12 => ?_)
        · have hf := if_t c12 hf
          refine lv_iconst (v := 0) hx hb dX7_agreeing_75 (by decide) ?_
          refine lv_iadd hx hb dX7_agreeing_76 ?_
          have e0_ := sm1 hf
          exact hret _ _ _ _ _ hw e0_ (Or.inl rfl) dX7_agreeing_77
        · have hf := if_f c12 hf
          refine lv_iconst (v := 1) hx hb dX7_agreeing_71 (by decide) ?_
          refine lv_goto (tgt := 76) hx hb dX7_agreeing_72 (by decide) ?_
          refine lv_iadd hx hb dX7_agreeing_76 ?_
          have e0_ := sm1 hf
          exact hret _ _ _ _ _ hw e0_ (Or.inl rfl) dX7_agreeing_77
    · have hf := if_f c3 hf
      refine lv_iconst (v := 1) hx hb dX7_agreeing_20 (by decide) ?_
      refine lv_goto (tgt := 25) hx hb dX7_agreeing_21 (by decide) ?_
      refine lv_aload_n hx hb dX7_agreeing_25 rfl (lv_at hl 0 rfl) ?_
      refine lv_aload_n hx hb dX7_agreeing_26 rfl (lv_at hl 0 rfl) ?_
      refine w_get hx hb hts hi7 hown hK hw 0 rfl rfl 31 (by decide) q0 rfl (v := .long (oM.2.1 31)) rfl dX7_agreeing_27 ?_
      refine lv_aload_n hx hb dX7_agreeing_30 rfl (lv_at hl 0 rfl) ?_
      refine w_get hx hb hts hi7 hown hK hw 0 rfl rfl 32 (by decide) q1 rfl (v := .long (oM.2.1 32)) rfl dX7_agreeing_31 ?_
      refine lv_aload_n hx hb dX7_agreeing_34 rfl (lv_at hl 0 rfl) ?_
      refine w_get hx hb hts hi7 hown hK hw 0 rfl rfl 30 (by decide) q2 rfl (v := .long (oM.2.1 30)) rfl dX7_agreeing_35 ?_
      refine lv_iload_n hx hb dX7_agreeing_38 rfl (lv_at hl 2 rfl) ?_
      obtain ⟨x13, g14, hf⟩ := bn1_e hf
      have fr := fr_X7_X7_oM o cA oM oM
      refine go_i (run_v (As := [.long (oM.2.1 31), .long (oM.2.1 32), .long (oM.2.1 30), .int a2]) (rest := [.int 1]) ⟨hx, hb, hml, hown, hts⟩ (k_X7_agrees l D cA o oM (oM.2.1 31) (oM.2.1 32) (oM.2.1 30) a2 x13 g14 H.size) (cwV 4 hts gX7_agreeing_X7_agrees rfl rfl rfl hd_X7_agrees ⟨Nat.le_of_ble_eq_true rfl, Nat.le_of_ble_eq_true rfl⟩) fr hw hK hA hZo hZ (ci := 7) rfl rfl rfl rfl hl.1 rfl (Nat.le_of_ble_eq_true rfl) dX7_agreeing_39 ⟨Nat.zero_le _, Nat.zero_le _⟩) fr hw hA (fun H locs hw => ?_)
      refine lv_if_eq (tgt := 49) hx hb dX7_agreeing_42 (by decide) (fun c15 => ?_) (fun c15 => ?_)
      · have hf := if_t c15 hf
        refine lv_iconst (v := 0) hx hb dX7_agreeing_49 (by decide) ?_
        refine lv_iadd hx hb dX7_agreeing_50 ?_
        refine lv_aload_n hx hb dX7_agreeing_51 rfl (lv_at hl 0 rfl) ?_
        refine lv_aload_n hx hb dX7_agreeing_52 rfl (lv_at hl 0 rfl) ?_
        refine w_get hx hb hts hi7 hown hK hw 0 rfl rfl 31 (by decide) q0 rfl (v := .long (oM.2.1 31)) rfl dX7_agreeing_53 ?_
        refine lv_aload_n hx hb dX7_agreeing_56 rfl (lv_at hl 0 rfl) ?_
        refine w_get hx hb hts hi7 hown hK hw 0 rfl rfl 32 (by decide) q1 rfl (v := .long (oM.2.1 32)) rfl dX7_agreeing_57 ?_
        refine lv_aload_n hx hb dX7_agreeing_60 rfl (lv_at hl 0 rfl) ?_
        refine w_get hx hb hts hi7 hown hK hw 0 rfl rfl 30 (by decide) q2 rfl (v := .long (oM.2.1 30)) rfl dX7_agreeing_61 ?_
        refine lv_iload_n hx hb dX7_agreeing_64 rfl (lv_at hl 3 rfl) ?_
        obtain ⟨x16, g17, hf⟩ := bn1_e hf
        have fr := fr_X7_X7_oM o cA oM oM
        refine go_i (run_v (As := [.long (oM.2.1 31), .long (oM.2.1 32), .long (oM.2.1 30), .int a3]) (rest := [.int (1 + 0)]) ⟨hx, hb, hml, hown, hts⟩ (k_X7_agrees l D cA o oM (oM.2.1 31) (oM.2.1 32) (oM.2.1 30) a3 x16 g17 H.size) (cwV 4 hts gX7_agreeing_X7_agrees rfl rfl rfl hd_X7_agrees ⟨Nat.le_of_ble_eq_true rfl, Nat.le_of_ble_eq_true rfl⟩) fr hw hK hA hZo hZ (ci := 7) rfl rfl rfl rfl hl.1 rfl (Nat.le_of_ble_eq_true rfl) dX7_agreeing_65 ⟨Nat.zero_le _, Nat.zero_le _⟩) fr hw hA (fun H locs hw => ?_)
        refine lv_if_eq (tgt := 75) hx hb dX7_agreeing_68 (by decide) (fun c18 => ?_) (fun c18 => ?_)
        · have hf := if_t c18 hf
          refine lv_iconst (v := 0) hx hb dX7_agreeing_75 (by decide) ?_
          refine lv_iadd hx hb dX7_agreeing_76 ?_
          have e0_ := sm1 hf
          exact hret _ _ _ _ _ hw e0_ (Or.inl rfl) dX7_agreeing_77
        · have hf := if_f c18 hf
          refine lv_iconst (v := 1) hx hb dX7_agreeing_71 (by decide) ?_
          refine lv_goto (tgt := 76) hx hb dX7_agreeing_72 (by decide) ?_
          refine lv_iadd hx hb dX7_agreeing_76 ?_
          have e0_ := sm1 hf
          exact hret _ _ _ _ _ hw e0_ (Or.inl rfl) dX7_agreeing_77
      · have hf := if_f c15 hf
        refine lv_iconst (v := 1) hx hb dX7_agreeing_45 (by decide) ?_
        refine lv_goto (tgt := 50) hx hb dX7_agreeing_46 (by decide) ?_
        refine lv_iadd hx hb dX7_agreeing_50 ?_
        refine lv_aload_n hx hb dX7_agreeing_51 rfl (lv_at hl 0 rfl) ?_
        refine lv_aload_n hx hb dX7_agreeing_52 rfl (lv_at hl 0 rfl) ?_
        refine w_get hx hb hts hi7 hown hK hw 0 rfl rfl 31 (by decide) q0 rfl (v := .long (oM.2.1 31)) rfl dX7_agreeing_53 ?_
        refine lv_aload_n hx hb dX7_agreeing_56 rfl (lv_at hl 0 rfl) ?_
        refine w_get hx hb hts hi7 hown hK hw 0 rfl rfl 32 (by decide) q1 rfl (v := .long (oM.2.1 32)) rfl dX7_agreeing_57 ?_
        refine lv_aload_n hx hb dX7_agreeing_60 rfl (lv_at hl 0 rfl) ?_
        refine w_get hx hb hts hi7 hown hK hw 0 rfl rfl 30 (by decide) q2 rfl (v := .long (oM.2.1 30)) rfl dX7_agreeing_61 ?_
        refine lv_iload_n hx hb dX7_agreeing_64 rfl (lv_at hl 3 rfl) ?_
        obtain ⟨x19, g20, hf⟩ := bn1_e hf
        have fr := fr_X7_X7_oM o cA oM oM
        refine go_i (run_v (As := [.long (oM.2.1 31), .long (oM.2.1 32), .long (oM.2.1 30), .int a3]) (rest := [.int (1 + 1)]) ⟨hx, hb, hml, hown, hts⟩ (k_X7_agrees l D cA o oM (oM.2.1 31) (oM.2.1 32) (oM.2.1 30) a3 x19 g20 H.size) (cwV 4 hts gX7_agreeing_X7_agrees rfl rfl rfl hd_X7_agrees ⟨Nat.le_of_ble_eq_true rfl, Nat.le_of_ble_eq_true rfl⟩) fr hw hK hA hZo hZ (ci := 7) rfl rfl rfl rfl hl.1 rfl (Nat.le_of_ble_eq_true rfl) dX7_agreeing_65 ⟨Nat.zero_le _, Nat.zero_le _⟩) fr hw hA (fun H locs hw => ?_)
        refine lv_if_eq (tgt := 75) hx hb dX7_agreeing_68 (by decide) (fun c21 => ?_) (fun c21 => ?_)
        · have hf := if_t c21 hf
          refine lv_iconst (v := 0) hx hb dX7_agreeing_75 (by decide) ?_
          refine lv_iadd hx hb dX7_agreeing_76 ?_
          have e0_ := sm1 hf
          exact hret _ _ _ _ _ hw e0_ (Or.inl rfl) dX7_agreeing_77
        · have hf := if_f c21 hf
          refine lv_iconst (v := 1) hx hb dX7_agreeing_71 (by decide) ?_
          refine lv_goto (tgt := 76) hx hb dX7_agreeing_72 (by decide) ?_
          refine lv_iadd hx hb dX7_agreeing_76 ?_
          have e0_ := sm1 hf
          exact hret _ _ _ _ _ hw e0_ (Or.inl rfl) dX7_agreeing_77
  rw [hH, hlc] at goal
  exact goal
abbrev rmX7_radius : Room := { frames := 0, cells := 0, slots := 0, locals := 0 }
theorem hd_X7_radius : yX7_radius.cls = RX7 ∧ yX7_radius.cls ≠ "java/lang/invoke/MethodHandle" ∧ yX7_radius.cls ≠ "java/lang/invoke/VarHandle" ∧ (parseMethodDescriptor yX7_radius.desc).map (fun d => d.parameters.length) = some 1 := by decide +kernel
set_option maxHeartbeats 4000000 in
set_option maxRecDepth 100000 in
theorem k_X7_radius (l : Launch) (D : va_G) (cA : ClassId) (o : Nat → Nat) (oM : St) (a1 : Int32) (r : Int32) (hf : f_X7_radius oM a1 = some (r)) : Mi l yX7_radius wsX7_radius rmX7_radius D cA z_0 [.ref (o 0), .int a1] (wX7 o cA oM) r (wX7 o cA oM) := by
  refine Mi.of (cc := cX7_radius) (maxL := 15) (ret := (some .int)) (plainFor_of_name (by decide)) rfl (Nat.le_of_ble_eq_true rfl) (Or.inl rfl) ?_
  intro p e s m below meth c A Q hx hb hml hown hts hK hA hZ hret ls hl hw
  replace hown : s.vm.findClass RX7 = some m.cls := hown
  have hl : lv_has ls 15 [(0, .ref (o 0)), (1, .int a1)] := hl
  have hZo := z_0_ok
  have hi7 : ∀ w ∈ wsX70, w ∈ wsX7_radius := fun w h => List.mem_cons_of_mem _ (List.mem_append_right _ h)
  have q0 := hts (.fieldLink RX7 217 "ArcRingsModel" "midX" "J") (by decide +kernel)
  have q1 := hts (.fieldLink RX7 13 "ArcRingsModel" "dotX" "[I") (by decide +kernel)
  have q2 := hts (.fieldLink RX7 212 "ArcRingsModel" "under" "J") (by decide +kernel)
  have q3 := hts (.fieldLink RX7 220 "ArcRingsModel" "midY" "J") (by decide +kernel)
  have q4 := hts (.fieldLink RX7 16 "ArcRingsModel" "dotY" "[I") (by decide +kernel)
  have q5 := hts (.constantLong RX7 227 100000) (by decide +kernel)
  have q6 := hts (.constantLong RX7 210 2) (by decide +kernel)
  have h_L56 : ∀ (v6 : Int64), ∀ (n : Nat) (v8 : Int64) (v10 : Int64), f_X7_radius_L56 oM v6 n v8 v10 = some (r) → ∀ (H : Heap) (locs : List Loc) (ls : Array Slot), Wd D A s.heap H locs (wX7 o cA oM) → lv_has ls 15 [(0, .ref (o 0)), (6, .long v6), (8, .long v8), (10, .long v10)] → W p l e rmX7_radius s m ([.ref (o 0), .int a1] : List Value).toArray below meth c H locs 0 0 Q (F0 m 56 ls []) := by
    intro v6 n
    induction n with
    | zero =>
      intro v8 v10 hf
      have hf : none = some (r) := hf
      cases hf
    | succ n ih =>
      intro v8 v10 hf H locs ls hw hl
      have hf := (f_X7_radius_L56_s oM v6 n v8 v10).symm.trans hf
      refine lv_lload hx hb dX7_radius_56 (lv_at hl 3 rfl) ?_
      refine lv_lload hx hb dX7_radius_58 (lv_at hl 2 rfl) ?_
      refine lv_lsub hx hb dX7_radius_60 ?_
      refine lv_lconst (v := 1) hx hb dX7_radius_61 (by decide) ?_
      refine W.lcmp hx hb dX7_radius_62 ?_
      refine lv_if_le (tgt := 136) hx hb dX7_radius_63 (by decide) (fun c9 => ?_) (fun c9 => ?_)
      · have hf := if_t c9 hf
        refine lv_lload hx hb dX7_radius_136 (lv_at hl 2 rfl) ?_
        refine lv_l2i (v := (v8 : Int64).toInt32) hx hb dX7_radius_138 rfl ?_
        have e0_ := sm1 hf
        exact hret _ _ _ _ _ hw e0_ (Or.inl rfl) dX7_radius_139
      · have hf := if_f c9 hf
        refine lv_lload hx hb dX7_radius_66 (lv_at hl 2 rfl) ?_
        refine lv_lload hx hb dX7_radius_68 (lv_at hl 3 rfl) ?_
        refine lv_ladd hx hb dX7_radius_70 ?_
        refine lv_ldc2 hx hb hown q6 dX7_radius_71 ?_
        refine lv_ldiv hx hb dX7_radius_74 (by decide) ?_
        refine lv_lstore (lv' := [(12, .long ((v8 + v10) / 2)), (0, .ref (o 0)), (6, .long v6), (8, .long v8), (10, .long v10)]) hx hb dX7_radius_75 hl (by decide) rfl (fun ls hl => ?_)
        refine lv_lload hx hb dX7_radius_77 (lv_at hl 0 rfl) ?_
        refine lv_lload hx hb dX7_radius_79 (lv_at hl 0 rfl) ?_
        refine lv_lmul hx hb dX7_radius_81 ?_
        refine lv_aload_n hx hb dX7_radius_82 rfl (lv_at hl 1 rfl) ?_
        refine w_get hx hb hts hi7 hown hK hw 0 rfl rfl 30 (by decide) q2 rfl (v := .long (oM.2.1 30)) rfl dX7_radius_83 ?_
        refine lv_lmul hx hb dX7_radius_86 ?_
        refine lv_aload_n hx hb dX7_radius_87 rfl (lv_at hl 1 rfl) ?_
        refine w_get hx hb hts hi7 hown hK hw 0 rfl rfl 30 (by decide) q2 rfl (v := .long (oM.2.1 30)) rfl dX7_radius_88 ?_
        refine lv_lmul hx hb dX7_radius_91 ?_
        refine lv_lload hx hb dX7_radius_92 (lv_at hl 2 rfl) ?_
        refine W.lcmp hx hb dX7_radius_94 ?_
        refine lv_if_gt (tgt := 102) hx hb dX7_radius_95 (by decide) (fun c10 => ?_) (fun c10 => ?_)
        · have hf := if_t c10 hf
          refine lv_iconst (v := 0) hx hb dX7_radius_102 (by decide) ?_
          refine lv_istore (lv' := [(14, .int 0), (12, .long ((v8 + v10) / 2)), (0, .ref (o 0)), (6, .long v6), (8, .long v8), (10, .long v10)]) hx hb dX7_radius_103 hl (by decide) rfl (fun ls hl => ?_)
          refine lv_iload hx hb dX7_radius_105 (lv_at hl 0 rfl) ?_
          refine lv_if_eq (tgt := 115) hx hb dX7_radius_107 (by decide) (fun c11 => ?_) (fun c11 => ?_)
          rotate_left
          · exact absurd c11 (by decide)
          refine lv_lload hx hb dX7_radius_115 (lv_at hl 4 rfl) ?_
          refine lv_lstore (lv' := [(8, .long v8), (14, .int 0), (12, .long ((v8 + v10) / 2)), (0, .ref (o 0)), (6, .long v6), (10, .long v10)]) hx hb dX7_radius_117 hl (by decide) rfl (fun ls hl => ?_)
          refine lv_iload hx hb dX7_radius_119 (lv_at hl 1 rfl) ?_
          refine lv_if_eq (tgt := 129) hx hb dX7_radius_121 (by decide) (fun c12 => ?_) (fun c12 => ?_)
          rotate_left
          · exact absurd c12 (by decide)
          refine lv_lload hx hb dX7_radius_129 (lv_at hl 2 rfl) ?_
          refine lv_lstore (lv' := [(10, .long ((v8 + v10) / 2)), (8, .long v8), (14, .int 0), (12, .long ((v8 + v10) / 2)), (0, .ref (o 0)), (6, .long v6)]) hx hb dX7_radius_131 hl (by decide) rfl (fun ls hl => ?_)
          refine lv_goto (tgt := 56) hx hb dX7_radius_133 (by decide) ?_
          exact ih v8 ((v8 + v10) / 2) hf H locs ls hw (lv_sub hl [4, 5, 1, 0] rfl)
        · have hf := if_f c10 hf
          refine lv_iconst (v := 1) hx hb dX7_radius_98 (by decide) ?_
          refine lv_goto (tgt := 103) hx hb dX7_radius_99 (by decide) ?_
          refine lv_istore (lv' := [(14, .int 1), (12, .long ((v8 + v10) / 2)), (0, .ref (o 0)), (6, .long v6), (8, .long v8), (10, .long v10)]) hx hb dX7_radius_103 hl (by decide) rfl (fun ls hl => ?_)
          refine lv_iload hx hb dX7_radius_105 (lv_at hl 0 rfl) ?_
          refine lv_if_eq (tgt := 115) hx hb dX7_radius_107 (by decide) (fun c13 => ?_) (fun c13 => ?_)
          · exact absurd c13 (by decide)
          refine lv_lload hx hb dX7_radius_110 (lv_at hl 1 rfl) ?_
          refine lv_goto (tgt := 117) hx hb dX7_radius_112 (by decide) ?_
          refine lv_lstore (lv' := [(8, .long ((v8 + v10) / 2)), (14, .int 1), (12, .long ((v8 + v10) / 2)), (0, .ref (o 0)), (6, .long v6), (10, .long v10)]) hx hb dX7_radius_117 hl (by decide) rfl (fun ls hl => ?_)
          refine lv_iload hx hb dX7_radius_119 (lv_at hl 1 rfl) ?_
          refine lv_if_eq (tgt := 129) hx hb dX7_radius_121 (by decide) (fun c14 => ?_) (fun c14 => ?_)
          · exact absurd c14 (by decide)
          refine lv_lload hx hb dX7_radius_124 (lv_at hl 5 rfl) ?_
          refine lv_goto (tgt := 131) hx hb dX7_radius_126 (by decide) ?_
          refine lv_lstore (lv' := [(10, .long v10), (8, .long ((v8 + v10) / 2)), (14, .int 1), (12, .long ((v8 + v10) / 2)), (0, .ref (o 0)), (6, .long v6)]) hx hb dX7_radius_131 hl (by decide) rfl (fun ls hl => ?_)
          refine lv_goto (tgt := 56) hx hb dX7_radius_133 (by decide) ?_
          exact ih ((v8 + v10) / 2) v10 hf H locs ls hw (lv_sub hl [4, 5, 1, 0] rfl)
  unfold f_X7_radius at hf
  obtain ⟨H, hH⟩ : ∃ H, H = s.heap := ⟨_, rfl⟩
  obtain ⟨locs, hlc⟩ : ∃ locs : List Loc, locs = [] := ⟨_, rfl⟩
  have hw : Wd D A s.heap H locs (wX7 o cA oM) := by rw [hH, hlc]; exact hw
  have goal : W p l e rmX7_radius s m ([.ref (o 0), .int a1] : List Value).toArray below meth c H locs 0 0 Q (F0 m 0 ls []) := by
    clear hH hlc
    refine lv_aload_n hx hb dX7_radius_0 rfl (lv_at hl 0 rfl) ?_
    refine w_get hx hb hts hi7 hown hK hw 0 rfl rfl 31 (by decide) q0 rfl (v := .long (oM.2.1 31)) rfl dX7_radius_1 ?_
    refine lv_aload_n hx hb dX7_radius_4 rfl (lv_at hl 0 rfl) ?_
    refine w_get hx hb hts hi7 hown hK hw 0 rfl rfl 6 (by decide) q1 rfl (v := .ref (o 2)) rfl dX7_radius_5 ?_
    refine lv_iload_n hx hb dX7_radius_8 rfl (lv_at hl 1 rfl) ?_
    obtain ⟨x1, g2, hf⟩ := bn1_e hf
    refine w_ald hx hb hK hw 2 rfl g2 dX7_radius_9 ?_
    refine lv_i2l (v := (x1 : Int32).toInt64) hx hb dX7_radius_10 rfl ?_
    refine lv_aload_n hx hb dX7_radius_11 rfl (lv_at hl 0 rfl) ?_
    refine w_get hx hb hts hi7 hown hK hw 0 rfl rfl 30 (by decide) q2 rfl (v := .long (oM.2.1 30)) rfl dX7_radius_12 ?_
    refine lv_lmul hx hb dX7_radius_15 ?_
    refine lv_lsub hx hb dX7_radius_16 ?_
    obtain ⟨y3, e4, hf⟩ := bn1_e hf
    refine w_nml (sm1 e4) ?_
    refine lv_lstore_n (lv' := [(2, .long y3), (0, .ref (o 0)), (1, .int a1)]) hx hb dX7_radius_17 rfl hl (by decide) rfl (fun ls hl => ?_)
    refine lv_aload_n hx hb dX7_radius_18 rfl (lv_at hl 1 rfl) ?_
    refine w_get hx hb hts hi7 hown hK hw 0 rfl rfl 32 (by decide) q3 rfl (v := .long (oM.2.1 32)) rfl dX7_radius_19 ?_
    refine lv_aload_n hx hb dX7_radius_22 rfl (lv_at hl 1 rfl) ?_
    refine w_get hx hb hts hi7 hown hK hw 0 rfl rfl 7 (by decide) q4 rfl (v := .ref (o 3)) rfl dX7_radius_23 ?_
    refine lv_iload_n hx hb dX7_radius_26 rfl (lv_at hl 2 rfl) ?_
    obtain ⟨x5, g6, hf⟩ := bn1_e hf
    refine w_ald hx hb hK hw 3 rfl g6 dX7_radius_27 ?_
    refine lv_i2l (v := (x5 : Int32).toInt64) hx hb dX7_radius_28 rfl ?_
    refine lv_aload_n hx hb dX7_radius_29 rfl (lv_at hl 1 rfl) ?_
    refine w_get hx hb hts hi7 hown hK hw 0 rfl rfl 30 (by decide) q2 rfl (v := .long (oM.2.1 30)) rfl dX7_radius_30 ?_
    refine lv_lmul hx hb dX7_radius_33 ?_
    refine lv_lsub hx hb dX7_radius_34 ?_
    obtain ⟨y7, e8, hf⟩ := bn1_e hf
    refine w_nml (sm1 e8) ?_
    refine lv_lstore (lv' := [(4, .long y7), (2, .long y3), (0, .ref (o 0)), (1, .int a1)]) hx hb dX7_radius_35 hl (by decide) rfl (fun ls hl => ?_)
    refine lv_lload_n hx hb dX7_radius_37 rfl (lv_at hl 1 rfl) ?_
    refine lv_lload_n hx hb dX7_radius_38 rfl (lv_at hl 1 rfl) ?_
    refine lv_lmul hx hb dX7_radius_39 ?_
    refine lv_lload hx hb dX7_radius_40 (lv_at hl 0 rfl) ?_
    refine lv_lload hx hb dX7_radius_42 (lv_at hl 0 rfl) ?_
    refine lv_lmul hx hb dX7_radius_44 ?_
    refine lv_ladd hx hb dX7_radius_45 ?_
    refine lv_lstore (lv' := [(6, .long ((y3 * y3) + (y7 * y7))), (4, .long y7), (2, .long y3), (0, .ref (o 0)), (1, .int a1)]) hx hb dX7_radius_46 hl (by decide) rfl (fun ls hl => ?_)
    refine lv_lconst (v := 0) hx hb dX7_radius_48 (by decide) ?_
    refine lv_lstore (lv' := [(8, .long 0), (6, .long ((y3 * y3) + (y7 * y7))), (4, .long y7), (2, .long y3), (0, .ref (o 0)), (1, .int a1)]) hx hb dX7_radius_49 hl (by decide) rfl (fun ls hl => ?_)
    refine lv_ldc2 hx hb hown q5 dX7_radius_51 ?_
    refine lv_lstore (lv' := [(10, .long 100000), (8, .long 0), (6, .long ((y3 * y3) + (y7 * y7))), (4, .long y7), (2, .long y3), (0, .ref (o 0)), (1, .int a1)]) hx hb dX7_radius_54 hl (by decide) rfl (fun ls hl => ?_)
    exact h_L56 ((y3 * y3) + (y7 * y7)) _ 0 100000 hf H locs ls hw (lv_sub hl [5, 2, 1, 0] rfl)
  rw [hH, hlc] at goal
  exact goal
abbrev rmX7_isVote : Room := { frames := 3, cells := 0, slots := 0, locals := 80 }
theorem hd_X7_isVote : yX7_isVote.cls = RX7 ∧ yX7_isVote.cls ≠ "java/lang/invoke/MethodHandle" ∧ yX7_isVote.cls ≠ "java/lang/invoke/VarHandle" ∧ (parseMethodDescriptor yX7_isVote.desc).map (fun d => d.parameters.length) = some 3 := by decide +kernel
set_option maxHeartbeats 4000000 in
set_option maxRecDepth 100000 in
theorem k_X7_isVote (l : Launch) (D : va_G) (cA : ClassId) (o : Nat → Nat) (oM : St) (a1 : Int32) (a2 : Int32) (a3 : Int32) (r : Int32) (oM' : St) (hf : f_X7_isVote oM a1 a2 a3 = some (r, oM')) : Mi l yX7_isVote wsX7_isVote rmX7_isVote D cA z_0 [.ref (o 0), .int a1, .int a2, .int a3] (wX7 o cA oM) r (wX7 o cA oM') := by
  refine Mi.of (cc := cX7_isVote) (maxL := 4) (ret := (some .boolean)) (plainFor_of_name (by decide)) rfl (Nat.le_of_ble_eq_true rfl) (Or.inr rfl) ?_
  intro p e s m below meth c A Q hx hb hml hown hts hK hA hZ hret ls hl hw
  replace hown : s.vm.findClass RX7 = some m.cls := hown
  have hl : lv_has ls 4 [(0, .ref (o 0)), (1, .int a1), (2, .int a2), (3, .int a3)] := hl
  have hZo := z_0_ok
  have hi7 : ∀ w ∈ wsX70, w ∈ wsX7_isVote := fun w h => List.mem_cons_of_mem _ (List.mem_append_right _ h)
  have q0 := hts (.fieldLink RX7 217 "ArcRingsModel" "midX" "J") (by decide +kernel)
  have q1 := hts (.fieldLink RX7 212 "ArcRingsModel" "under" "J") (by decide +kernel)
  have q2 := hts (.fieldLink RX7 233 "ArcRingsModel" "cellX" "I") (by decide +kernel)
  have q3 := hts (.fieldLink RX7 220 "ArcRingsModel" "midY" "J") (by decide +kernel)
  have q4 := hts (.fieldLink RX7 236 "ArcRingsModel" "cellY" "I") (by decide +kernel)
  have q5 := hts (.fieldLink RX7 246 "ArcRingsModel" "cellR" "I") (by decide +kernel)
  have q6 := hts (.fieldLink RX7 22 "ArcRingsModel" "bounds" "[I") (by decide +kernel)
  unfold f_X7_isVote at hf
  obtain ⟨H, hH⟩ : ∃ H, H = s.heap := ⟨_, rfl⟩
  obtain ⟨locs, hlc⟩ : ∃ locs : List Loc, locs = [] := ⟨_, rfl⟩
  have hw : Wd D A s.heap H locs (wX7 o cA oM) := by rw [hH, hlc]; exact hw
  have goal : W p l e rmX7_isVote s m ([.ref (o 0), .int a1, .int a2, .int a3] : List Value).toArray below meth c H locs 0 0 Q (F0 m 0 ls []) := by
    clear hH hlc
    refine lv_aload_n hx hb dX7_isVote_0 rfl (lv_at hl 0 rfl) ?_
    refine lv_aload_n hx hb dX7_isVote_1 rfl (lv_at hl 0 rfl) ?_
    refine w_get hx hb hts hi7 hown hK hw 0 rfl rfl 31 (by decide) q0 rfl (v := .long (oM.2.1 31)) rfl dX7_isVote_2 ?_
    refine lv_aload_n hx hb dX7_isVote_5 rfl (lv_at hl 0 rfl) ?_
    refine w_get hx hb hts hi7 hown hK hw 0 rfl rfl 30 (by decide) q1 rfl (v := .long (oM.2.1 30)) rfl dX7_isVote_6 ?_
    obtain ⟨x1, g2, hf⟩ := bn1_e hf
    have fr := fr_X7_S o cA oM
    refine go_i (run_s (As := [.long (oM.2.1 31), .long (oM.2.1 30)]) (rest := [.ref (o 0)]) ⟨hx, hb, hml, hown, hts⟩ (k_X7_floor l D cA (oM.2.1 31) (oM.2.1 30) x1 g2 H.size) (va_cwS 2 hts gX7_isVote_X7_floor rfl rfl rfl hd_X7_floor ⟨Nat.le_of_ble_eq_true rfl, Nat.le_of_ble_eq_true rfl⟩) fr hw hK hA rfl hl.1 rfl (Nat.le_of_ble_eq_true rfl) dX7_isVote_9 ⟨Nat.zero_le _, Nat.zero_le _⟩) fr hw hA (fun H locs hw => ?_)
    refine w_put (ws' := (wX7 o cA ((sI oM 33 x1)))) hx hb hts hi7 tyX7 tyX7_ok nmX7 hown hK hw 0 rfl rfl 33 (by decide) q2 rfl rfl rfl rfl (Nat.le_of_ble_eq_true rfl) rfl dX7_isVote_12 (fun H locs hw => ?_)
    refine lv_aload_n hx hb dX7_isVote_15 rfl (lv_at hl 0 rfl) ?_
    refine lv_aload_n hx hb dX7_isVote_16 rfl (lv_at hl 0 rfl) ?_
    refine w_get hx hb hts hi7 hown hK hw 0 rfl rfl 32 (by decide) q3 rfl (v := .long (oM.2.1 32)) rfl dX7_isVote_17 ?_
    refine lv_aload_n hx hb dX7_isVote_20 rfl (lv_at hl 0 rfl) ?_
    refine w_get hx hb hts hi7 hown hK hw 0 rfl rfl 30 (by decide) q1 rfl (v := .long (oM.2.1 30)) rfl dX7_isVote_21 ?_
    obtain ⟨x3, g4, hf⟩ := bn1_e hf
    have fr := fr_X7_S o cA ((sI oM 33 x1))
    refine go_i (run_s (As := [.long (oM.2.1 32), .long (oM.2.1 30)]) (rest := [.ref (o 0)]) ⟨hx, hb, hml, hown, hts⟩ (k_X7_floor l D cA (oM.2.1 32) (oM.2.1 30) x3 g4 H.size) (va_cwS 2 hts gX7_isVote_X7_floor rfl rfl rfl hd_X7_floor ⟨Nat.le_of_ble_eq_true rfl, Nat.le_of_ble_eq_true rfl⟩) fr hw hK hA rfl hl.1 rfl (Nat.le_of_ble_eq_true rfl) dX7_isVote_24 ⟨Nat.zero_le _, Nat.zero_le _⟩) fr hw hA (fun H locs hw => ?_)
    refine w_put (ws' := (wX7 o cA ((sI (sI oM 33 x1) 34 x3)))) hx hb hts hi7 tyX7 tyX7_ok nmX7 hown hK hw 0 rfl rfl 34 (by decide) q4 rfl rfl rfl rfl (Nat.le_of_ble_eq_true rfl) rfl dX7_isVote_27 (fun H locs hw => ?_)
    refine lv_aload_n hx hb dX7_isVote_30 rfl (lv_at hl 0 rfl) ?_
    refine lv_aload_n hx hb dX7_isVote_31 rfl (lv_at hl 0 rfl) ?_
    refine w_get hx hb hts hi7 hown hK hw 0 rfl rfl 33 (by decide) q2 rfl (v := .int x1) rfl dX7_isVote_32 ?_
    refine lv_aload_n hx hb dX7_isVote_35 rfl (lv_at hl 0 rfl) ?_
    refine w_get hx hb hts hi7 hown hK hw 0 rfl rfl 34 (by decide) q4 rfl (v := .int x3) rfl dX7_isVote_36 ?_
    obtain ⟨x5, g6, hf⟩ := bn1_e hf
    have fr := fr_X7_X7_oM o cA ((sI (sI oM 33 x1) 34 x3)) ((sI (sI oM 33 x1) 34 x3))
    refine go_i (run_v (As := [.int x1, .int x3]) (rest := []) ⟨hx, hb, hml, hown, hts⟩ (k_X7_isOn l D cA o ((sI (sI oM 33 x1) 34 x3)) x1 x3 x5 g6 H.size) (cwV 2 hts gX7_isVote_X7_isOn rfl rfl rfl hd_X7_isOn ⟨Nat.le_of_ble_eq_true rfl, Nat.le_of_ble_eq_true rfl⟩) fr hw hK hA hZo hZ (ci := 7) rfl rfl rfl rfl hl.1 rfl (Nat.le_of_ble_eq_true rfl) dX7_isVote_39 ⟨Nat.zero_le _, Nat.zero_le _⟩) fr hw hA (fun H locs hw => ?_)
    refine lv_if_eq (tgt := 56) hx hb dX7_isVote_42 (by decide) (fun c7 => ?_) (fun c7 => ?_)
    · have hf := if_t c7 hf
      refine lv_iconst (v := 0) hx hb dX7_isVote_56 (by decide) ?_
      obtain ⟨e0_, e1_⟩ := sm2 hf
      exact hret _ _ _ _ _ (by rw [← e1_]; exact hw) e0_ (Or.inr (Or.inl rfl)) dX7_isVote_57
    · have hf := if_f c7 hf
      refine lv_aload_n hx hb dX7_isVote_45 rfl (lv_at hl 0 rfl) ?_
      refine lv_iload_n hx hb dX7_isVote_46 rfl (lv_at hl 1 rfl) ?_
      refine lv_iload_n hx hb dX7_isVote_47 rfl (lv_at hl 2 rfl) ?_
      refine lv_iload_n hx hb dX7_isVote_48 rfl (lv_at hl 3 rfl) ?_
      obtain ⟨x8, g9, hf⟩ := bn1_e hf
      have fr := fr_X7_X7_oM o cA ((sI (sI oM 33 x1) 34 x3)) ((sI (sI oM 33 x1) 34 x3))
      refine go_i (run_v (As := [.int a1, .int a2, .int a3]) (rest := []) ⟨hx, hb, hml, hown, hts⟩ (k_X7_agreeing l D cA o ((sI (sI oM 33 x1) 34 x3)) a1 a2 a3 x8 g9 H.size) (cwV 3 hts gX7_isVote_X7_agreeing rfl rfl rfl hd_X7_agreeing ⟨Nat.le_of_ble_eq_true rfl, Nat.le_of_ble_eq_true rfl⟩) fr hw hK hA hZo hZ (ci := 7) rfl rfl rfl rfl hl.1 rfl (Nat.le_of_ble_eq_true rfl) dX7_isVote_49 ⟨Nat.zero_le _, Nat.zero_le _⟩) fr hw hA (fun H locs hw => ?_)
      refine lv_iconst (v := 3) hx hb dX7_isVote_52 (by decide) ?_
      refine lv_icmp_ge (tgt := 58) hx hb dX7_isVote_53 (by decide) (fun c10 => ?_) (fun c10 => ?_)
      · have hf := if_t c10 hf
        refine lv_aload_n hx hb dX7_isVote_58 rfl (lv_at hl 0 rfl) ?_
        refine lv_aload_n hx hb dX7_isVote_59 rfl (lv_at hl 0 rfl) ?_
        refine lv_iload_n hx hb dX7_isVote_60 rfl (lv_at hl 1 rfl) ?_
        obtain ⟨x11, g12, hf⟩ := bn1_e hf
        have fr := fr_X7_X7_oM o cA ((sI (sI oM 33 x1) 34 x3)) ((sI (sI oM 33 x1) 34 x3))
        refine go_i (run_v (As := [.int a1]) (rest := [.ref (o 0)]) ⟨hx, hb, hml, hown, hts⟩ (k_X7_radius l D cA o ((sI (sI oM 33 x1) 34 x3)) a1 x11 g12 H.size) (cwV 1 hts gX7_isVote_X7_radius rfl rfl rfl hd_X7_radius ⟨Nat.le_of_ble_eq_true rfl, Nat.le_of_ble_eq_true rfl⟩) fr hw hK hA hZo hZ (ci := 7) rfl rfl rfl rfl hl.1 rfl (Nat.le_of_ble_eq_true rfl) dX7_isVote_61 ⟨Nat.zero_le _, Nat.zero_le _⟩) fr hw hA (fun H locs hw => ?_)
        refine w_put (ws' := (wX7 o cA ((sI (sI (sI oM 33 x1) 34 x3) 35 x11)))) hx hb hts hi7 tyX7 tyX7_ok nmX7 hown hK hw 0 rfl rfl 35 (by decide) q5 rfl rfl rfl rfl (Nat.le_of_ble_eq_true rfl) rfl dX7_isVote_64 (fun H locs hw => ?_)
        refine lv_aload_n hx hb dX7_isVote_67 rfl (lv_at hl 0 rfl) ?_
        refine w_get hx hb hts hi7 hown hK hw 0 rfl rfl 35 (by decide) q5 rfl (v := .int x11) rfl dX7_isVote_68 ?_
        refine lv_aload_n hx hb dX7_isVote_71 rfl (lv_at hl 0 rfl) ?_
        refine w_get hx hb hts hi7 hown hK hw 0 rfl rfl 9 (by decide) q6 rfl (v := .ref (o 5)) rfl dX7_isVote_72 ?_
        refine lv_iconst (v := 0) hx hb dX7_isVote_75 (by decide) ?_
        obtain ⟨x13, g14, hf⟩ := bn1_e hf
        refine w_ald hx hb hK hw 5 rfl g14 dX7_isVote_76 ?_
        refine lv_aload_n hx hb dX7_isVote_77 rfl (lv_at hl 0 rfl) ?_
        refine w_get hx hb hts hi7 hown hK hw 0 rfl rfl 9 (by decide) q6 rfl (v := .ref (o 5)) rfl dX7_isVote_78 ?_
        refine lv_iconst (v := 1) hx hb dX7_isVote_81 (by decide) ?_
        obtain ⟨x15, g16, hf⟩ := bn1_e hf
        refine w_ald hx hb hK hw 5 rfl g16 dX7_isVote_82 ?_
        obtain ⟨x17, g18, hf⟩ := bn1_e hf
        have fr := fr_X7_S o cA ((sI (sI (sI oM 33 x1) 34 x3) 35 x11))
        refine go_i (run_s (As := [.int x11, .int x13, .int x15]) (rest := []) ⟨hx, hb, hml, hown, hts⟩ (k_X7_within l D cA x11 x13 x15 x17 g18 H.size) (va_cwS 3 hts gX7_isVote_X7_within rfl rfl rfl hd_X7_within ⟨Nat.le_of_ble_eq_true rfl, Nat.le_of_ble_eq_true rfl⟩) fr hw hK hA rfl hl.1 rfl (Nat.le_of_ble_eq_true rfl) dX7_isVote_83 ⟨Nat.zero_le _, Nat.zero_le _⟩) fr hw hA (fun H locs hw => ?_)
        obtain ⟨bz, hf⟩ := if_n hf
        obtain ⟨e0_, e1_⟩ := sm2 hf
        exact hret _ _ _ _ _ (by rw [← e1_]; exact hw) e0_ (Or.inr bz) dX7_isVote_86
      · have hf := if_f c10 hf
        refine lv_iconst (v := 0) hx hb dX7_isVote_56 (by decide) ?_
        obtain ⟨e0_, e1_⟩ := sm2 hf
        exact hret _ _ _ _ _ (by rw [← e1_]; exact hw) e0_ (Or.inr (Or.inl rfl)) dX7_isVote_57
  rw [hH, hlc] at goal
  exact goal
abbrev rmX7_circleNow : Room := { frames := 4, cells := 0, slots := 0, locals := 103 }
theorem hd_X7_circleNow : yX7_circleNow.cls = RX7 ∧ yX7_circleNow.cls ≠ "java/lang/invoke/MethodHandle" ∧ yX7_circleNow.cls ≠ "java/lang/invoke/VarHandle" ∧ (parseMethodDescriptor yX7_circleNow.desc).map (fun d => d.parameters.length) = some 4 := by decide +kernel
set_option maxHeartbeats 4000000 in
set_option maxRecDepth 100000 in
theorem k_X7_circleNow (l : Launch) (D : va_G) (cA : ClassId) (o : Nat → Nat) (oM : St) (a1 : Int32) (a2 : Int32) (a3 : Int32) (a4 : Int32) (r : Int32) (oM' : St) (hf : f_X7_circleNow oM a1 a2 a3 a4 = some (r, oM')) : Mi l yX7_circleNow wsX7_circleNow rmX7_circleNow D cA z_0 [.ref (o 0), .int a1, .int a2, .int a3, .int a4] (wX7 o cA oM) r (wX7 o cA oM') := by
  refine Mi.of (cc := cX7_circleNow) (maxL := 5) (ret := (some .int)) (plainFor_of_name (by decide)) rfl (Nat.le_of_ble_eq_true rfl) (Or.inl rfl) ?_
  intro p e s m below meth c A Q hx hb hml hown hts hK hA hZ hret ls hl hw
  replace hown : s.vm.findClass RX7 = some m.cls := hown
  have hl : lv_has ls 5 [(0, .ref (o 0)), (1, .int a1), (2, .int a2), (3, .int a3), (4, .int a4)] := hl
  have hZo := z_0_ok
  have hi7 : ∀ w ∈ wsX70, w ∈ wsX7_circleNow := fun w h => List.mem_cons_of_mem _ (List.mem_append_right _ h)
  have q0 := hts (.fieldLink RX7 217 "ArcRingsModel" "midX" "J") (by decide +kernel)
  have q1 := hts (.fieldLink RX7 212 "ArcRingsModel" "under" "J") (by decide +kernel)
  have q2 := hts (.fieldLink RX7 220 "ArcRingsModel" "midY" "J") (by decide +kernel)
  unfold f_X7_circleNow at hf
  obtain ⟨H, hH⟩ : ∃ H, H = s.heap := ⟨_, rfl⟩
  obtain ⟨locs, hlc⟩ : ∃ locs : List Loc, locs = [] := ⟨_, rfl⟩
  have hw : Wd D A s.heap H locs (wX7 o cA oM) := by rw [hH, hlc]; exact hw
  have goal : W p l e rmX7_circleNow s m ([.ref (o 0), .int a1, .int a2, .int a3, .int a4] : List Value).toArray below meth c H locs 0 0 Q (F0 m 0 ls []) := by
    clear hH hlc
    refine lv_iload hx hb dX7_circleNow_0 (lv_at hl 4 rfl) ?_
    by_cases c1 : a4 = 0
    · have hf := if_t c1 hf
      refine lv_tableIn (tgt := 32) hx hb dX7_circleNow_2 (by rw [c1]; decide) (by rw [c1]; decide) (by rw [c1]; rfl) (by decide) ?_
      refine lv_aload_n hx hb dX7_circleNow_32 rfl (lv_at hl 0 rfl) ?_
      refine lv_iload_n hx hb dX7_circleNow_33 rfl (lv_at hl 1 rfl) ?_
      refine lv_iload_n hx hb dX7_circleNow_34 rfl (lv_at hl 2 rfl) ?_
      refine lv_iload_n hx hb dX7_circleNow_35 rfl (lv_at hl 3 rfl) ?_
      obtain ⟨x2, oM3, g4, hf⟩ := bn2_e hf
      have fr := fr_X7_X7_oM o cA oM oM3
      refine go_i (run_v (As := [.int a1, .int a2, .int a3]) (rest := []) ⟨hx, hb, hml, hown, hts⟩ (k_X7_isVote l D cA o oM a1 a2 a3 x2 oM3 g4 H.size) (cwV 3 hts gX7_circleNow_X7_isVote rfl rfl rfl hd_X7_isVote ⟨Nat.le_of_ble_eq_true rfl, Nat.le_of_ble_eq_true rfl⟩) fr hw hK hA hZo hZ (ci := 7) rfl rfl rfl rfl hl.1 rfl (Nat.le_of_ble_eq_true rfl) dX7_circleNow_36 ⟨Nat.zero_le _, Nat.zero_le _⟩) fr hw hA (fun H locs hw => ?_)
      refine lv_if_eq (tgt := 46) hx hb dX7_circleNow_39 (by decide) (fun c5 => ?_) (fun c5 => ?_)
      · have hf := if_t c5 hf
        refine lv_iconst (v := 0) hx hb dX7_circleNow_46 (by decide) ?_
        obtain ⟨e0_, e1_⟩ := sm2 hf
        exact hret _ _ _ _ _ (by rw [← e1_]; exact hw) e0_ (Or.inl rfl) dX7_circleNow_47
      · have hf := if_f c5 hf
        refine lv_iconst (v := 1) hx hb dX7_circleNow_42 (by decide) ?_
        refine lv_goto (tgt := 47) hx hb dX7_circleNow_43 (by decide) ?_
        obtain ⟨e0_, e1_⟩ := sm2 hf
        exact hret _ _ _ _ _ (by rw [← e1_]; exact hw) e0_ (Or.inl rfl) dX7_circleNow_47
    have hf := if_f c1 hf
    by_cases c6 : a4 = 1
    · have hf := if_t c6 hf
      refine lv_tableIn (tgt := 48) hx hb dX7_circleNow_2 (by rw [c6]; decide) (by rw [c6]; decide) (by rw [c6]; rfl) (by decide) ?_
      refine lv_aload_n hx hb dX7_circleNow_48 rfl (lv_at hl 0 rfl) ?_
      refine w_get hx hb hts hi7 hown hK hw 0 rfl rfl 31 (by decide) q0 rfl (v := .long (oM.2.1 31)) rfl dX7_circleNow_49 ?_
      refine lv_aload_n hx hb dX7_circleNow_52 rfl (lv_at hl 0 rfl) ?_
      refine w_get hx hb hts hi7 hown hK hw 0 rfl rfl 30 (by decide) q1 rfl (v := .long (oM.2.1 30)) rfl dX7_circleNow_53 ?_
      obtain ⟨x7, g8, hf⟩ := bn1_e hf
      have fr := fr_X7_S o cA oM
      refine go_i (run_s (As := [.long (oM.2.1 31), .long (oM.2.1 30)]) (rest := []) ⟨hx, hb, hml, hown, hts⟩ (k_X7_floor l D cA (oM.2.1 31) (oM.2.1 30) x7 g8 H.size) (va_cwS 2 hts gX7_circleNow_X7_floor rfl rfl rfl hd_X7_floor ⟨Nat.le_of_ble_eq_true rfl, Nat.le_of_ble_eq_true rfl⟩) fr hw hK hA rfl hl.1 rfl (Nat.le_of_ble_eq_true rfl) dX7_circleNow_56 ⟨Nat.zero_le _, Nat.zero_le _⟩) fr hw hA (fun H locs hw => ?_)
      obtain ⟨e0_, e1_⟩ := sm2 hf
      exact hret _ _ _ _ _ (by rw [← e1_]; exact hw) e0_ (Or.inl rfl) dX7_circleNow_59
    have hf := if_f c6 hf
    by_cases c9 : a4 = 2
    · have hf := if_t c9 hf
      refine lv_tableIn (tgt := 60) hx hb dX7_circleNow_2 (by rw [c9]; decide) (by rw [c9]; decide) (by rw [c9]; rfl) (by decide) ?_
      refine lv_aload_n hx hb dX7_circleNow_60 rfl (lv_at hl 0 rfl) ?_
      refine w_get hx hb hts hi7 hown hK hw 0 rfl rfl 32 (by decide) q2 rfl (v := .long (oM.2.1 32)) rfl dX7_circleNow_61 ?_
      refine lv_aload_n hx hb dX7_circleNow_64 rfl (lv_at hl 0 rfl) ?_
      refine w_get hx hb hts hi7 hown hK hw 0 rfl rfl 30 (by decide) q1 rfl (v := .long (oM.2.1 30)) rfl dX7_circleNow_65 ?_
      obtain ⟨x10, g11, hf⟩ := bn1_e hf
      have fr := fr_X7_S o cA oM
      refine go_i (run_s (As := [.long (oM.2.1 32), .long (oM.2.1 30)]) (rest := []) ⟨hx, hb, hml, hown, hts⟩ (k_X7_floor l D cA (oM.2.1 32) (oM.2.1 30) x10 g11 H.size) (va_cwS 2 hts gX7_circleNow_X7_floor rfl rfl rfl hd_X7_floor ⟨Nat.le_of_ble_eq_true rfl, Nat.le_of_ble_eq_true rfl⟩) fr hw hK hA rfl hl.1 rfl (Nat.le_of_ble_eq_true rfl) dX7_circleNow_68 ⟨Nat.zero_le _, Nat.zero_le _⟩) fr hw hA (fun H locs hw => ?_)
      obtain ⟨e0_, e1_⟩ := sm2 hf
      exact hret _ _ _ _ _ (by rw [← e1_]; exact hw) e0_ (Or.inl rfl) dX7_circleNow_71
    have hf := if_f c9 hf
    by_cases c12 : a4 = 3
    · have hf := if_t c12 hf
      refine lv_tableIn (tgt := 72) hx hb dX7_circleNow_2 (by rw [c12]; decide) (by rw [c12]; decide) (by rw [c12]; rfl) (by decide) ?_
      refine lv_aload_n hx hb dX7_circleNow_72 rfl (lv_at hl 0 rfl) ?_
      refine lv_iload_n hx hb dX7_circleNow_73 rfl (lv_at hl 1 rfl) ?_
      obtain ⟨x13, g14, hf⟩ := bn1_e hf
      have fr := fr_X7_X7_oM o cA oM oM
      refine go_i (run_v (As := [.int a1]) (rest := []) ⟨hx, hb, hml, hown, hts⟩ (k_X7_radius l D cA o oM a1 x13 g14 H.size) (cwV 1 hts gX7_circleNow_X7_radius rfl rfl rfl hd_X7_radius ⟨Nat.le_of_ble_eq_true rfl, Nat.le_of_ble_eq_true rfl⟩) fr hw hK hA hZo hZ (ci := 7) rfl rfl rfl rfl hl.1 rfl (Nat.le_of_ble_eq_true rfl) dX7_circleNow_74 ⟨Nat.zero_le _, Nat.zero_le _⟩) fr hw hA (fun H locs hw => ?_)
      obtain ⟨e0_, e1_⟩ := sm2 hf
      exact hret _ _ _ _ _ (by rw [← e1_]; exact hw) e0_ (Or.inl rfl) dX7_circleNow_77
    have hf := if_f c12 hf
    refine lv_tableOut (tgt := 78) hx hb dX7_circleNow_2 (w_out (n := 4) (by decide) (fun k hk => ?_)) (by decide) ?_
    · match k, hk with
      | 0, _ => exact c1
      | 1, _ => exact c6
      | 2, _ => exact c9
      | 3, _ => exact c12
      | k + 4, hk => omega
    refine lv_aload_n hx hb dX7_circleNow_78 rfl (lv_at hl 0 rfl) ?_
    refine lv_iload_n hx hb dX7_circleNow_79 rfl (lv_at hl 1 rfl) ?_
    refine lv_iload_n hx hb dX7_circleNow_80 rfl (lv_at hl 2 rfl) ?_
    refine lv_iload_n hx hb dX7_circleNow_81 rfl (lv_at hl 3 rfl) ?_
    obtain ⟨x15, g16, hf⟩ := bn1_e hf
    have fr := fr_X7_X7_oM o cA oM oM
    refine go_i (run_v (As := [.int a1, .int a2, .int a3]) (rest := []) ⟨hx, hb, hml, hown, hts⟩ (k_X7_agreeing l D cA o oM a1 a2 a3 x15 g16 H.size) (cwV 3 hts gX7_circleNow_X7_agreeing rfl rfl rfl hd_X7_agreeing ⟨Nat.le_of_ble_eq_true rfl, Nat.le_of_ble_eq_true rfl⟩) fr hw hK hA hZo hZ (ci := 7) rfl rfl rfl rfl hl.1 rfl (Nat.le_of_ble_eq_true rfl) dX7_circleNow_82 ⟨Nat.zero_le _, Nat.zero_le _⟩) fr hw hA (fun H locs hw => ?_)
    obtain ⟨e0_, e1_⟩ := sm2 hf
    exact hret _ _ _ _ _ (by rw [← e1_]; exact hw) e0_ (Or.inl rfl) dX7_circleNow_85
  rw [hH, hlc] at goal
  exact goal
abbrev rmX7_circle : Room := { frames := 5, cells := 0, slots := 0, locals := 127 }
theorem hd_X7_circle : yX7_circle.cls = RX7 ∧ yX7_circle.cls ≠ "java/lang/invoke/MethodHandle" ∧ yX7_circle.cls ≠ "java/lang/invoke/VarHandle" ∧ (parseMethodDescriptor yX7_circle.desc).map (fun d => d.parameters.length) = some 4 := by decide +kernel
set_option maxHeartbeats 4000000 in
set_option maxRecDepth 100000 in
theorem k_X7_circle (l : Launch) (D : va_G) (cA : ClassId) (o : Nat → Nat) (oM : St) (a1 : Int32) (a2 : Int32) (a3 : Int32) (a4 : Int32) (r : Int32) (oM' : St) (hf : f_X7_circle oM a1 a2 a3 a4 = some (r, oM')) : Mi l yX7_circle wsX7_circle rmX7_circle D cA z_0 [.ref (o 0), .int a1, .int a2, .int a3, .int a4] (wX7 o cA oM) r (wX7 o cA oM') := by
  refine Mi.of (cc := cX7_circle) (maxL := 5) (ret := (some .int)) (plainFor_of_name (by decide)) rfl (Nat.le_of_ble_eq_true rfl) (Or.inl rfl) ?_
  intro p e s m below meth c A Q hx hb hml hown hts hK hA hZ hret ls hl hw
  replace hown : s.vm.findClass RX7 = some m.cls := hown
  have hl : lv_has ls 5 [(0, .ref (o 0)), (1, .int a1), (2, .int a2), (3, .int a3), (4, .int a4)] := hl
  have hZo := z_0_ok
  unfold f_X7_circle at hf
  obtain ⟨H, hH⟩ : ∃ H, H = s.heap := ⟨_, rfl⟩
  obtain ⟨locs, hlc⟩ : ∃ locs : List Loc, locs = [] := ⟨_, rfl⟩
  have hw : Wd D A s.heap H locs (wX7 o cA oM) := by rw [hH, hlc]; exact hw
  have goal : W p l e rmX7_circle s m ([.ref (o 0), .int a1, .int a2, .int a3, .int a4] : List Value).toArray below meth c H locs 0 0 Q (F0 m 0 ls []) := by
    clear hH hlc
    refine lv_aload_n hx hb dX7_circle_0 rfl (lv_at hl 0 rfl) ?_
    refine lv_iload_n hx hb dX7_circle_1 rfl (lv_at hl 1 rfl) ?_
    obtain ⟨x1, g2, hf⟩ := bn1_e hf
    have fr := fr_X7_X7_oM o cA oM oM
    refine go_i (run_v (As := [.int a1]) (rest := []) ⟨hx, hb, hml, hown, hts⟩ (k_X7_isDot l D cA o oM a1 x1 g2 H.size) (cwV 1 hts gX7_circle_X7_isDot rfl rfl rfl hd_X7_isDot ⟨Nat.le_of_ble_eq_true rfl, Nat.le_of_ble_eq_true rfl⟩) fr hw hK hA hZo hZ (ci := 7) rfl rfl rfl rfl hl.1 rfl (Nat.le_of_ble_eq_true rfl) dX7_circle_2 ⟨Nat.zero_le _, Nat.zero_le _⟩) fr hw hA (fun H locs hw => ?_)
    refine lv_if_eq (tgt := 39) hx hb dX7_circle_5 (by decide) (fun c3 => ?_) (fun c3 => ?_)
    · have hf := if_t c3 hf
      refine lv_bipush (v := (-101)) hx hb dX7_circle_39 (by decide) ?_
      obtain ⟨e0_, e1_⟩ := sm2 hf
      exact hret _ _ _ _ _ (by rw [← e1_]; exact hw) e0_ (Or.inl rfl) dX7_circle_41
    · have hf := if_f c3 hf
      refine lv_aload_n hx hb dX7_circle_8 rfl (lv_at hl 0 rfl) ?_
      refine lv_iload_n hx hb dX7_circle_9 rfl (lv_at hl 2 rfl) ?_
      obtain ⟨x4, g5, hf⟩ := bn1_e hf
      have fr := fr_X7_X7_oM o cA oM oM
      refine go_i (run_v (As := [.int a2]) (rest := []) ⟨hx, hb, hml, hown, hts⟩ (k_X7_isDot l D cA o oM a2 x4 g5 H.size) (cwV 1 hts gX7_circle_X7_isDot rfl rfl rfl hd_X7_isDot ⟨Nat.le_of_ble_eq_true rfl, Nat.le_of_ble_eq_true rfl⟩) fr hw hK hA hZo hZ (ci := 7) rfl rfl rfl rfl hl.1 rfl (Nat.le_of_ble_eq_true rfl) dX7_circle_10 ⟨Nat.zero_le _, Nat.zero_le _⟩) fr hw hA (fun H locs hw => ?_)
      refine lv_if_eq (tgt := 39) hx hb dX7_circle_13 (by decide) (fun c6 => ?_) (fun c6 => ?_)
      · have hf := if_t c6 hf
        refine lv_bipush (v := (-101)) hx hb dX7_circle_39 (by decide) ?_
        obtain ⟨e0_, e1_⟩ := sm2 hf
        exact hret _ _ _ _ _ (by rw [← e1_]; exact hw) e0_ (Or.inl rfl) dX7_circle_41
      · have hf := if_f c6 hf
        refine lv_aload_n hx hb dX7_circle_16 rfl (lv_at hl 0 rfl) ?_
        refine lv_iload_n hx hb dX7_circle_17 rfl (lv_at hl 3 rfl) ?_
        obtain ⟨x7, g8, hf⟩ := bn1_e hf
        have fr := fr_X7_X7_oM o cA oM oM
        refine go_i (run_v (As := [.int a3]) (rest := []) ⟨hx, hb, hml, hown, hts⟩ (k_X7_isDot l D cA o oM a3 x7 g8 H.size) (cwV 1 hts gX7_circle_X7_isDot rfl rfl rfl hd_X7_isDot ⟨Nat.le_of_ble_eq_true rfl, Nat.le_of_ble_eq_true rfl⟩) fr hw hK hA hZo hZ (ci := 7) rfl rfl rfl rfl hl.1 rfl (Nat.le_of_ble_eq_true rfl) dX7_circle_18 ⟨Nat.zero_le _, Nat.zero_le _⟩) fr hw hA (fun H locs hw => ?_)
        refine lv_if_eq (tgt := 39) hx hb dX7_circle_21 (by decide) (fun c9 => ?_) (fun c9 => ?_)
        · have hf := if_t c9 hf
          refine lv_bipush (v := (-101)) hx hb dX7_circle_39 (by decide) ?_
          obtain ⟨e0_, e1_⟩ := sm2 hf
          exact hret _ _ _ _ _ (by rw [← e1_]; exact hw) e0_ (Or.inl rfl) dX7_circle_41
        · have hf := if_f c9 hf
          refine lv_iload_n hx hb dX7_circle_24 rfl (lv_at hl 1 rfl) ?_
          refine lv_iload_n hx hb dX7_circle_25 rfl (lv_at hl 2 rfl) ?_
          refine lv_icmp_eq (tgt := 39) hx hb dX7_circle_26 (by decide) (fun c10 => ?_) (fun c10 => ?_)
          · have hf := if_t c10 hf
            refine lv_bipush (v := (-101)) hx hb dX7_circle_39 (by decide) ?_
            obtain ⟨e0_, e1_⟩ := sm2 hf
            exact hret _ _ _ _ _ (by rw [← e1_]; exact hw) e0_ (Or.inl rfl) dX7_circle_41
          · have hf := if_f c10 hf
            refine lv_iload_n hx hb dX7_circle_29 rfl (lv_at hl 2 rfl) ?_
            refine lv_iload_n hx hb dX7_circle_30 rfl (lv_at hl 3 rfl) ?_
            refine lv_icmp_eq (tgt := 39) hx hb dX7_circle_31 (by decide) (fun c11 => ?_) (fun c11 => ?_)
            · have hf := if_t c11 hf
              refine lv_bipush (v := (-101)) hx hb dX7_circle_39 (by decide) ?_
              obtain ⟨e0_, e1_⟩ := sm2 hf
              exact hret _ _ _ _ _ (by rw [← e1_]; exact hw) e0_ (Or.inl rfl) dX7_circle_41
            · have hf := if_f c11 hf
              refine lv_iload_n hx hb dX7_circle_34 rfl (lv_at hl 1 rfl) ?_
              refine lv_iload_n hx hb dX7_circle_35 rfl (lv_at hl 3 rfl) ?_
              refine lv_icmp_ne (tgt := 42) hx hb dX7_circle_36 (by decide) (fun c12 => ?_) (fun c12 => ?_)
              · have hf := if_f c12 hf
                refine lv_iload hx hb dX7_circle_42 (lv_at hl 4 rfl) ?_
                refine lv_iconst (v := 0) hx hb dX7_circle_44 (by decide) ?_
                refine lv_iconst (v := 4) hx hb dX7_circle_45 (by decide) ?_
                obtain ⟨x13, g14, hf⟩ := bn1_e hf
                have fr := fr_X7_S o cA oM
                refine go_i (run_s (As := [.int a4, .int 0, .int 4]) (rest := []) ⟨hx, hb, hml, hown, hts⟩ (k_X7_within l D cA a4 0 4 x13 g14 H.size) (va_cwS 3 hts gX7_circle_X7_within rfl rfl rfl hd_X7_within ⟨Nat.le_of_ble_eq_true rfl, Nat.le_of_ble_eq_true rfl⟩) fr hw hK hA rfl hl.1 rfl (Nat.le_of_ble_eq_true rfl) dX7_circle_46 ⟨Nat.zero_le _, Nat.zero_le _⟩) fr hw hA (fun H locs hw => ?_)
                refine lv_if_ne (tgt := 55) hx hb dX7_circle_49 (by decide) (fun c15 => ?_) (fun c15 => ?_)
                · have hf := if_f c15 hf
                  refine lv_aload_n hx hb dX7_circle_55 rfl (lv_at hl 0 rfl) ?_
                  refine lv_iload_n hx hb dX7_circle_56 rfl (lv_at hl 1 rfl) ?_
                  refine lv_iload_n hx hb dX7_circle_57 rfl (lv_at hl 2 rfl) ?_
                  refine lv_iload_n hx hb dX7_circle_58 rfl (lv_at hl 3 rfl) ?_
                  obtain ⟨x16, oM17, g18, hf⟩ := bn2_e hf
                  have fr := fr_X7_X7_oM o cA oM oM17
                  refine go_i (run_v (As := [.int a1, .int a2, .int a3]) (rest := []) ⟨hx, hb, hml, hown, hts⟩ (k_X7_layMiddle l D cA o oM a1 a2 a3 x16 oM17 g18 H.size) (cwV 3 hts gX7_circle_X7_layMiddle rfl rfl rfl hd_X7_layMiddle ⟨Nat.le_of_ble_eq_true rfl, Nat.le_of_ble_eq_true rfl⟩) fr hw hK hA hZo hZ (ci := 7) rfl rfl rfl rfl hl.1 rfl (Nat.le_of_ble_eq_true rfl) dX7_circle_59 ⟨Nat.zero_le _, Nat.zero_le _⟩) fr hw hA (fun H locs hw => ?_)
                  refine lv_if_eq (tgt := 77) hx hb dX7_circle_62 (by decide) (fun c19 => ?_) (fun c19 => ?_)
                  · have hf := if_t c19 hf
                    refine lv_bipush (v := (-103)) hx hb dX7_circle_77 (by decide) ?_
                    obtain ⟨e0_, e1_⟩ := sm2 hf
                    exact hret _ _ _ _ _ (by rw [← e1_]; exact hw) e0_ (Or.inl rfl) dX7_circle_79
                  · have hf := if_f c19 hf
                    refine lv_aload_n hx hb dX7_circle_65 rfl (lv_at hl 0 rfl) ?_
                    refine lv_iload_n hx hb dX7_circle_66 rfl (lv_at hl 1 rfl) ?_
                    refine lv_iload_n hx hb dX7_circle_67 rfl (lv_at hl 2 rfl) ?_
                    refine lv_iload_n hx hb dX7_circle_68 rfl (lv_at hl 3 rfl) ?_
                    refine lv_iload hx hb dX7_circle_69 (lv_at hl 4 rfl) ?_
                    obtain ⟨x20, oM21, g22, hf⟩ := bn2_e hf
                    have fr := fr_X7_X7_oM o cA oM17 oM21
                    refine go_i (run_v (As := [.int a1, .int a2, .int a3, .int a4]) (rest := []) ⟨hx, hb, hml, hown, hts⟩ (k_X7_circleNow l D cA o oM17 a1 a2 a3 a4 x20 oM21 g22 H.size) (cwV 4 hts gX7_circle_X7_circleNow rfl rfl rfl hd_X7_circleNow ⟨Nat.le_of_ble_eq_true rfl, Nat.le_of_ble_eq_true rfl⟩) fr hw hK hA hZo hZ (ci := 7) rfl rfl rfl rfl hl.1 rfl (Nat.le_of_ble_eq_true rfl) dX7_circle_71 ⟨Nat.zero_le _, Nat.zero_le _⟩) fr hw hA (fun H locs hw => ?_)
                    refine lv_goto (tgt := 79) hx hb dX7_circle_74 (by decide) ?_
                    obtain ⟨e0_, e1_⟩ := sm2 hf
                    exact hret _ _ _ _ _ (by rw [← e1_]; exact hw) e0_ (Or.inl rfl) dX7_circle_79
                · have hf := if_t c15 hf
                  refine lv_bipush (v := (-102)) hx hb dX7_circle_52 (by decide) ?_
                  obtain ⟨e0_, e1_⟩ := sm2 hf
                  exact hret _ _ _ _ _ (by rw [← e1_]; exact hw) e0_ (Or.inl rfl) dX7_circle_54
              · have hf := if_t c12 hf
                refine lv_bipush (v := (-101)) hx hb dX7_circle_39 (by decide) ?_
                obtain ⟨e0_, e1_⟩ := sm2 hf
                exact hret _ _ _ _ _ (by rw [← e1_]; exact hw) e0_ (Or.inl rfl) dX7_circle_41
  rw [hH, hlc] at goal
  exact goal
abbrev rmX7_vote : Room := { frames := 0, cells := 0, slots := 0, locals := 0 }
theorem hd_X7_vote : yX7_vote.cls = RX7 ∧ yX7_vote.cls ≠ "java/lang/invoke/MethodHandle" ∧ yX7_vote.cls ≠ "java/lang/invoke/VarHandle" ∧ (parseMethodDescriptor yX7_vote.desc).map (fun d => d.parameters.length) = some 0 := by decide +kernel
set_option maxHeartbeats 4000000 in
set_option maxRecDepth 100000 in
theorem k_X7_vote (l : Launch) (D : va_G) (cA : ClassId) (o : Nat → Nat) (oM : St) (oM' : St) (hf : f_X7_vote oM = some (oM')) : Mv l yX7_vote wsX7_vote rmX7_vote D cA z_0 [.ref (o 0)] (wX7 o cA oM) (wX7 o cA oM') := by
  refine Mv.of (cc := cX7_vote) (maxL := 2) (by decide) rfl (Nat.le_of_ble_eq_true rfl) ?_
  intro p e s m below meth c A Q hx hb hml hown hts hK hA hZ hret ls hl hw
  replace hown : s.vm.findClass RX7 = some m.cls := hown
  have hl : lv_has ls 2 [(0, .ref (o 0))] := hl
  have hZo := z_0_ok
  have hi7 : ∀ w ∈ wsX70, w ∈ wsX7_vote := fun w h => List.mem_cons_of_mem _ (List.mem_append_right _ h)
  have q0 := hts (.fieldLink RX7 259 "ArcRingsModel" "spotMany" "I") (by decide +kernel)
  have q1 := hts (.fieldLink RX7 46 "ArcRingsModel" "spotX" "[I") (by decide +kernel)
  have q2 := hts (.fieldLink RX7 233 "ArcRingsModel" "cellX" "I") (by decide +kernel)
  have q3 := hts (.fieldLink RX7 49 "ArcRingsModel" "spotY" "[I") (by decide +kernel)
  have q4 := hts (.fieldLink RX7 236 "ArcRingsModel" "cellY" "I") (by decide +kernel)
  have q5 := hts (.fieldLink RX7 52 "ArcRingsModel" "spotR" "[I") (by decide +kernel)
  have q6 := hts (.fieldLink RX7 246 "ArcRingsModel" "cellR" "I") (by decide +kernel)
  have q7 := hts (.fieldLink RX7 55 "ArcRingsModel" "spotVotes" "[I") (by decide +kernel)
  have h_L2 : ∀ (oM : St) (K : Int32 → Option (St)), (∀ (z0 : Int32), K z0 = some (oM') → ∀ (H : Heap) (locs : List Loc) (ls : Array Slot), Wd D A s.heap H locs (wX7 o cA oM) → lv_has ls 2 [(0, .ref (o 0)), (1, .int z0)] → W p l e rmX7_vote s m ([.ref (o 0)] : List Value).toArray below meth c H locs 0 0 Q (F0 m 55 ls [])) → ∀ (n : Nat) (v1 : Int32), f_X7_vote_L2 oM K n v1 = some (oM') → ∀ (H : Heap) (locs : List Loc) (ls : Array Slot), Wd D A s.heap H locs (wX7 o cA oM) → lv_has ls 2 [(0, .ref (o 0)), (1, .int v1)] → W p l e rmX7_vote s m ([.ref (o 0)] : List Value).toArray below meth c H locs 0 0 Q (F0 m 2 ls []) := by
    intro oM K hK9 n
    induction n with
    | zero =>
      intro v1 hf
      have hf : none = some (oM') := hf
      cases hf
    | succ n ih =>
      intro v1 hf H locs ls hw hl
      have hf := (f_X7_vote_L2_s oM K n v1).symm.trans hf
      refine lv_iload_n hx hb dX7_vote_2 rfl (lv_at hl 1 rfl) ?_
      refine lv_aload_n hx hb dX7_vote_3 rfl (lv_at hl 0 rfl) ?_
      refine w_get hx hb hts hi7 hown hK hw 0 rfl rfl 36 (by decide) q0 rfl (v := .int (oM.1 36)) rfl dX7_vote_4 ?_
      refine lv_icmp_ge (tgt := 55) hx hb dX7_vote_7 (by decide) (fun c1 => ?_) (fun c1 => ?_)
      · have hf := if_t c1 hf
        exact hK9 v1 hf H locs ls hw (lv_sub hl [0, 1] rfl)
      · have hf := if_f c1 hf
        refine lv_aload_n hx hb dX7_vote_10 rfl (lv_at hl 0 rfl) ?_
        refine w_get hx hb hts hi7 hown hK hw 0 rfl rfl 39 (by decide) q1 rfl (v := .ref (o 13)) rfl dX7_vote_11 ?_
        refine lv_iload_n hx hb dX7_vote_14 rfl (lv_at hl 1 rfl) ?_
        obtain ⟨x2, g3, hf⟩ := bn1_e hf
        refine w_ald hx hb hK hw 13 rfl g3 dX7_vote_15 ?_
        refine lv_aload_n hx hb dX7_vote_16 rfl (lv_at hl 0 rfl) ?_
        refine w_get hx hb hts hi7 hown hK hw 0 rfl rfl 33 (by decide) q2 rfl (v := .int (oM.1 33)) rfl dX7_vote_17 ?_
        refine lv_icmp_ne (tgt := 49) hx hb dX7_vote_20 (by decide) (fun c4 => ?_) (fun c4 => ?_)
        · have hf := if_f c4 hf
          refine lv_iinc (v := v1 + 1) (lv' := [(1, .int (v1 + 1)), (0, .ref (o 0))]) hx hb dX7_vote_49 hl (k := 1) rfl (by rfl) (by decide) rfl (fun ls hl => ?_)
          refine lv_goto (tgt := 2) hx hb dX7_vote_52 (by decide) ?_
          exact ih (v1 + 1) hf H locs ls hw (lv_sub hl [1, 0] rfl)
        · have hf := if_t c4 hf
          refine lv_aload_n hx hb dX7_vote_23 rfl (lv_at hl 0 rfl) ?_
          refine w_get hx hb hts hi7 hown hK hw 0 rfl rfl 40 (by decide) q3 rfl (v := .ref (o 14)) rfl dX7_vote_24 ?_
          refine lv_iload_n hx hb dX7_vote_27 rfl (lv_at hl 1 rfl) ?_
          obtain ⟨x5, g6, hf⟩ := bn1_e hf
          refine w_ald hx hb hK hw 14 rfl g6 dX7_vote_28 ?_
          refine lv_aload_n hx hb dX7_vote_29 rfl (lv_at hl 0 rfl) ?_
          refine w_get hx hb hts hi7 hown hK hw 0 rfl rfl 34 (by decide) q4 rfl (v := .int (oM.1 34)) rfl dX7_vote_30 ?_
          refine lv_icmp_ne (tgt := 49) hx hb dX7_vote_33 (by decide) (fun c7 => ?_) (fun c7 => ?_)
          · have hf := if_f c7 hf
            refine lv_iinc (v := v1 + 1) (lv' := [(1, .int (v1 + 1)), (0, .ref (o 0))]) hx hb dX7_vote_49 hl (k := 1) rfl (by rfl) (by decide) rfl (fun ls hl => ?_)
            refine lv_goto (tgt := 2) hx hb dX7_vote_52 (by decide) ?_
            exact ih (v1 + 1) hf H locs ls hw (lv_sub hl [1, 0] rfl)
          · have hf := if_t c7 hf
            refine lv_aload_n hx hb dX7_vote_36 rfl (lv_at hl 0 rfl) ?_
            refine w_get hx hb hts hi7 hown hK hw 0 rfl rfl 41 (by decide) q5 rfl (v := .ref (o 15)) rfl dX7_vote_37 ?_
            refine lv_iload_n hx hb dX7_vote_40 rfl (lv_at hl 1 rfl) ?_
            obtain ⟨x8, g9, hf⟩ := bn1_e hf
            refine w_ald hx hb hK hw 15 rfl g9 dX7_vote_41 ?_
            refine lv_aload_n hx hb dX7_vote_42 rfl (lv_at hl 0 rfl) ?_
            refine w_get hx hb hts hi7 hown hK hw 0 rfl rfl 35 (by decide) q6 rfl (v := .int (oM.1 35)) rfl dX7_vote_43 ?_
            refine lv_icmp_eq (tgt := 55) hx hb dX7_vote_46 (by decide) (fun c10 => ?_) (fun c10 => ?_)
            · have hf := if_t c10 hf
              exact hK9 v1 hf H locs ls hw (lv_sub hl [0, 1] rfl)
            · have hf := if_f c10 hf
              refine lv_iinc (v := v1 + 1) (lv' := [(1, .int (v1 + 1)), (0, .ref (o 0))]) hx hb dX7_vote_49 hl (k := 1) rfl (by rfl) (by decide) rfl (fun ls hl => ?_)
              refine lv_goto (tgt := 2) hx hb dX7_vote_52 (by decide) ?_
              exact ih (v1 + 1) hf H locs ls hw (lv_sub hl [1, 0] rfl)
  unfold f_X7_vote at hf
  obtain ⟨H, hH⟩ : ∃ H, H = s.heap := ⟨_, rfl⟩
  obtain ⟨locs, hlc⟩ : ∃ locs : List Loc, locs = [] := ⟨_, rfl⟩
  have hw : Wd D A s.heap H locs (wX7 o cA oM) := by rw [hH, hlc]; exact hw
  have goal : W p l e rmX7_vote s m ([.ref (o 0)] : List Value).toArray below meth c H locs 0 0 Q (F0 m 0 ls []) := by
    clear hH hlc
    refine lv_iconst (v := 0) hx hb dX7_vote_0 (by decide) ?_
    refine lv_istore_n (lv' := [(1, .int 0), (0, .ref (o 0))]) hx hb dX7_vote_1 rfl hl (by decide) rfl (fun ls hl => ?_)
    refine h_L2 oM _ ?_ _ 0 hf H locs ls hw (lv_sub hl [1, 0] rfl)
    intro v11 hf H locs ls hw hl
    refine lv_iload_n hx hb dX7_vote_55 rfl (lv_at hl 1 rfl) ?_
    refine lv_aload_n hx hb dX7_vote_56 rfl (lv_at hl 0 rfl) ?_
    refine w_get hx hb hts hi7 hown hK hw 0 rfl rfl 36 (by decide) q0 rfl (v := .int (oM.1 36)) rfl dX7_vote_57 ?_
    refine lv_icmp_ne (tgt := 110) hx hb dX7_vote_60 (by decide) (fun c12 => ?_) (fun c12 => ?_)
    · have hf := if_f c12 hf
      refine lv_aload_n hx hb dX7_vote_110 rfl (lv_at hl 0 rfl) ?_
      refine w_get hx hb hts hi7 hown hK hw 0 rfl rfl 42 (by decide) q7 rfl (v := .ref (o 16)) rfl dX7_vote_111 ?_
      refine lv_iload_n hx hb dX7_vote_114 rfl (lv_at hl 1 rfl) ?_
      refine lv_dup2_11 hx hb dX7_vote_115 rfl rfl ?_
      obtain ⟨x13, g14, hf⟩ := bn1_e hf
      refine w_ald hx hb hK hw 16 rfl g14 dX7_vote_116 ?_
      refine lv_iconst (v := 1) hx hb dX7_vote_117 (by decide) ?_
      refine lv_iadd hx hb dX7_vote_118 ?_
      obtain ⟨oM16, g15, hf⟩ := bn1_e hf
      refine w_aws hx hb hK hw 16 rfl g15 (fun z => (wX7 o cA z)) (fun _ => rfl) dX7_vote_119 (fun H locs hw => ?_)
      have e0_ := sm1 hf
      exact hret _ _ _ _ (by rw [← e0_]; exact hw) dX7_vote_120
    · have hf := if_t c12 hf
      refine lv_aload_n hx hb dX7_vote_63 rfl (lv_at hl 0 rfl) ?_
      refine w_get hx hb hts hi7 hown hK hw 0 rfl rfl 39 (by decide) q1 rfl (v := .ref (o 13)) rfl dX7_vote_64 ?_
      refine lv_iload_n hx hb dX7_vote_67 rfl (lv_at hl 1 rfl) ?_
      refine lv_aload_n hx hb dX7_vote_68 rfl (lv_at hl 0 rfl) ?_
      refine w_get hx hb hts hi7 hown hK hw 0 rfl rfl 33 (by decide) q2 rfl (v := .int (oM.1 33)) rfl dX7_vote_69 ?_
      obtain ⟨oM18, g17, hf⟩ := bn1_e hf
      refine w_aws hx hb hK hw 13 rfl g17 (fun z => (wX7 o cA z)) (fun _ => rfl) dX7_vote_72 (fun H locs hw => ?_)
      refine lv_aload_n hx hb dX7_vote_73 rfl (lv_at hl 0 rfl) ?_
      refine w_get hx hb hts hi7 hown hK hw 0 rfl rfl 40 (by decide) q3 rfl (v := .ref (o 14)) rfl dX7_vote_74 ?_
      refine lv_iload_n hx hb dX7_vote_77 rfl (lv_at hl 1 rfl) ?_
      refine lv_aload_n hx hb dX7_vote_78 rfl (lv_at hl 0 rfl) ?_
      refine w_get hx hb hts hi7 hown hK hw 0 rfl rfl 34 (by decide) q4 rfl (v := .int (oM18.1 34)) rfl dX7_vote_79 ?_
      obtain ⟨oM20, g19, hf⟩ := bn1_e hf
      refine w_aws hx hb hK hw 14 rfl g19 (fun z => (wX7 o cA z)) (fun _ => rfl) dX7_vote_82 (fun H locs hw => ?_)
      refine lv_aload_n hx hb dX7_vote_83 rfl (lv_at hl 0 rfl) ?_
      refine w_get hx hb hts hi7 hown hK hw 0 rfl rfl 41 (by decide) q5 rfl (v := .ref (o 15)) rfl dX7_vote_84 ?_
      refine lv_iload_n hx hb dX7_vote_87 rfl (lv_at hl 1 rfl) ?_
      refine lv_aload_n hx hb dX7_vote_88 rfl (lv_at hl 0 rfl) ?_
      refine w_get hx hb hts hi7 hown hK hw 0 rfl rfl 35 (by decide) q6 rfl (v := .int (oM20.1 35)) rfl dX7_vote_89 ?_
      obtain ⟨oM22, g21, hf⟩ := bn1_e hf
      refine w_aws hx hb hK hw 15 rfl g21 (fun z => (wX7 o cA z)) (fun _ => rfl) dX7_vote_92 (fun H locs hw => ?_)
      refine lv_aload_n hx hb dX7_vote_93 rfl (lv_at hl 0 rfl) ?_
      refine w_get hx hb hts hi7 hown hK hw 0 rfl rfl 42 (by decide) q7 rfl (v := .ref (o 16)) rfl dX7_vote_94 ?_
      refine lv_iload_n hx hb dX7_vote_97 rfl (lv_at hl 1 rfl) ?_
      refine lv_iconst (v := 0) hx hb dX7_vote_98 (by decide) ?_
      obtain ⟨oM24, g23, hf⟩ := bn1_e hf
      refine w_aws hx hb hK hw 16 rfl g23 (fun z => (wX7 o cA z)) (fun _ => rfl) dX7_vote_99 (fun H locs hw => ?_)
      refine lv_aload_n hx hb dX7_vote_100 rfl (lv_at hl 0 rfl) ?_
      refine lv_dup hx hb dX7_vote_101 rfl ?_
      refine w_get hx hb hts hi7 hown hK hw 0 rfl rfl 36 (by decide) q0 rfl (v := .int (oM24.1 36)) rfl dX7_vote_102 ?_
      refine lv_iconst (v := 1) hx hb dX7_vote_105 (by decide) ?_
      refine lv_iadd hx hb dX7_vote_106 ?_
      refine w_put (ws' := (wX7 o cA ((sI oM24 36 ((oM24.1 36) + 1))))) hx hb hts hi7 tyX7 tyX7_ok nmX7 hown hK hw 0 rfl rfl 36 (by decide) q0 rfl rfl rfl rfl (Nat.le_of_ble_eq_true rfl) rfl dX7_vote_107 (fun H locs hw => ?_)
      refine lv_aload_n hx hb dX7_vote_110 rfl (lv_at hl 0 rfl) ?_
      refine w_get hx hb hts hi7 hown hK hw 0 rfl rfl 42 (by decide) q7 rfl (v := .ref (o 16)) rfl dX7_vote_111 ?_
      refine lv_iload_n hx hb dX7_vote_114 rfl (lv_at hl 1 rfl) ?_
      refine lv_dup2_11 hx hb dX7_vote_115 rfl rfl ?_
      obtain ⟨x25, g26, hf⟩ := bn1_e hf
      refine w_ald hx hb hK hw 16 rfl g26 dX7_vote_116 ?_
      refine lv_iconst (v := 1) hx hb dX7_vote_117 (by decide) ?_
      refine lv_iadd hx hb dX7_vote_118 ?_
      obtain ⟨oM28, g27, hf⟩ := bn1_e hf
      refine w_aws hx hb hK hw 16 rfl g27 (fun z => (wX7 o cA z)) (fun _ => rfl) dX7_vote_119 (fun H locs hw => ?_)
      have e0_ := sm1 hf
      exact hret _ _ _ _ (by rw [← e0_]; exact hw) dX7_vote_120
  rw [hH, hlc] at goal
  exact goal
abbrev rmX7_isAhead : Room := { frames := 0, cells := 0, slots := 0, locals := 0 }
theorem hd_X7_isAhead : yX7_isAhead.cls = RX7 ∧ yX7_isAhead.cls ≠ "java/lang/invoke/MethodHandle" ∧ yX7_isAhead.cls ≠ "java/lang/invoke/VarHandle" ∧ (parseMethodDescriptor yX7_isAhead.desc).map (fun d => d.parameters.length) = some 2 := by decide +kernel
set_option maxHeartbeats 4000000 in
set_option maxRecDepth 100000 in
theorem k_X7_isAhead (l : Launch) (D : va_G) (cA : ClassId) (o : Nat → Nat) (oM : St) (a1 : Int32) (a2 : Int32) (r : Int32) (hf : f_X7_isAhead oM a1 a2 = some (r)) : Mi l yX7_isAhead wsX7_isAhead rmX7_isAhead D cA z_0 [.ref (o 0), .int a1, .int a2] (wX7 o cA oM) r (wX7 o cA oM) := by
  refine Mi.of (cc := cX7_isAhead) (maxL := 3) (ret := (some .boolean)) (plainFor_of_name (by decide)) rfl (Nat.le_of_ble_eq_true rfl) (Or.inr rfl) ?_
  intro p e s m below meth c A Q hx hb hml hown hts hK hA hZ hret ls hl hw
  replace hown : s.vm.findClass RX7 = some m.cls := hown
  have hl : lv_has ls 3 [(0, .ref (o 0)), (1, .int a1), (2, .int a2)] := hl
  have hZo := z_0_ok
  have hi7 : ∀ w ∈ wsX70, w ∈ wsX7_isAhead := fun w h => List.mem_cons_of_mem _ (List.mem_append_right _ h)
  have q0 := hts (.fieldLink RX7 55 "ArcRingsModel" "spotVotes" "[I") (by decide +kernel)
  have q1 := hts (.fieldLink RX7 52 "ArcRingsModel" "spotR" "[I") (by decide +kernel)
  have q2 := hts (.fieldLink RX7 49 "ArcRingsModel" "spotY" "[I") (by decide +kernel)
  have q3 := hts (.fieldLink RX7 46 "ArcRingsModel" "spotX" "[I") (by decide +kernel)
  unfold f_X7_isAhead at hf
  obtain ⟨H, hH⟩ : ∃ H, H = s.heap := ⟨_, rfl⟩
  obtain ⟨locs, hlc⟩ : ∃ locs : List Loc, locs = [] := ⟨_, rfl⟩
  have hw : Wd D A s.heap H locs (wX7 o cA oM) := by rw [hH, hlc]; exact hw
  have goal : W p l e rmX7_isAhead s m ([.ref (o 0), .int a1, .int a2] : List Value).toArray below meth c H locs 0 0 Q (F0 m 0 ls []) := by
    clear hH hlc
    refine lv_aload_n hx hb dX7_isAhead_0 rfl (lv_at hl 0 rfl) ?_
    refine w_get hx hb hts hi7 hown hK hw 0 rfl rfl 42 (by decide) q0 rfl (v := .ref (o 16)) rfl dX7_isAhead_1 ?_
    refine lv_iload_n hx hb dX7_isAhead_4 rfl (lv_at hl 1 rfl) ?_
    obtain ⟨x1, g2, hf⟩ := bn1_e hf
    refine w_ald hx hb hK hw 16 rfl g2 dX7_isAhead_5 ?_
    refine lv_aload_n hx hb dX7_isAhead_6 rfl (lv_at hl 0 rfl) ?_
    refine w_get hx hb hts hi7 hown hK hw 0 rfl rfl 42 (by decide) q0 rfl (v := .ref (o 16)) rfl dX7_isAhead_7 ?_
    refine lv_iload_n hx hb dX7_isAhead_10 rfl (lv_at hl 2 rfl) ?_
    obtain ⟨x3, g4, hf⟩ := bn1_e hf
    refine w_ald hx hb hK hw 16 rfl g4 dX7_isAhead_11 ?_
    refine lv_icmp_eq (tgt := 36) hx hb dX7_isAhead_12 (by decide) (fun c5 => ?_) (fun c5 => ?_)
    · have hf := if_t c5 hf
      refine lv_aload_n hx hb dX7_isAhead_36 rfl (lv_at hl 0 rfl) ?_
      refine w_get hx hb hts hi7 hown hK hw 0 rfl rfl 41 (by decide) q1 rfl (v := .ref (o 15)) rfl dX7_isAhead_37 ?_
      refine lv_iload_n hx hb dX7_isAhead_40 rfl (lv_at hl 1 rfl) ?_
      obtain ⟨x6, g7, hf⟩ := bn1_e hf
      refine w_ald hx hb hK hw 15 rfl g7 dX7_isAhead_41 ?_
      refine lv_aload_n hx hb dX7_isAhead_42 rfl (lv_at hl 0 rfl) ?_
      refine w_get hx hb hts hi7 hown hK hw 0 rfl rfl 41 (by decide) q1 rfl (v := .ref (o 15)) rfl dX7_isAhead_43 ?_
      refine lv_iload_n hx hb dX7_isAhead_46 rfl (lv_at hl 2 rfl) ?_
      obtain ⟨x8, g9, hf⟩ := bn1_e hf
      refine w_ald hx hb hK hw 15 rfl g9 dX7_isAhead_47 ?_
      refine lv_icmp_eq (tgt := 72) hx hb dX7_isAhead_48 (by decide) (fun c10 => ?_) (fun c10 => ?_)
      · have hf := if_t c10 hf
        refine lv_aload_n hx hb dX7_isAhead_72 rfl (lv_at hl 0 rfl) ?_
        refine w_get hx hb hts hi7 hown hK hw 0 rfl rfl 40 (by decide) q2 rfl (v := .ref (o 14)) rfl dX7_isAhead_73 ?_
        refine lv_iload_n hx hb dX7_isAhead_76 rfl (lv_at hl 1 rfl) ?_
        obtain ⟨x11, g12, hf⟩ := bn1_e hf
        refine w_ald hx hb hK hw 14 rfl g12 dX7_isAhead_77 ?_
        refine lv_aload_n hx hb dX7_isAhead_78 rfl (lv_at hl 0 rfl) ?_
        refine w_get hx hb hts hi7 hown hK hw 0 rfl rfl 40 (by decide) q2 rfl (v := .ref (o 14)) rfl dX7_isAhead_79 ?_
        refine lv_iload_n hx hb dX7_isAhead_82 rfl (lv_at hl 2 rfl) ?_
        obtain ⟨x13, g14, hf⟩ := bn1_e hf
        refine w_ald hx hb hK hw 14 rfl g14 dX7_isAhead_83 ?_
        refine lv_icmp_lt (tgt := 117) hx hb dX7_isAhead_84 (by decide) (fun c15 => ?_) (fun c15 => ?_)
        · have hf := if_t c15 hf
          refine lv_iconst (v := 1) hx hb dX7_isAhead_117 (by decide) ?_
          refine lv_goto (tgt := 122) hx hb dX7_isAhead_118 (by decide) ?_
          have e0_ := sm1 hf
          exact hret _ _ _ _ _ hw e0_ (Or.inr (Or.inr rfl)) dX7_isAhead_122
        · have hf := if_f c15 hf
          refine lv_aload_n hx hb dX7_isAhead_87 rfl (lv_at hl 0 rfl) ?_
          refine w_get hx hb hts hi7 hown hK hw 0 rfl rfl 40 (by decide) q2 rfl (v := .ref (o 14)) rfl dX7_isAhead_88 ?_
          refine lv_iload_n hx hb dX7_isAhead_91 rfl (lv_at hl 1 rfl) ?_
          obtain ⟨x16, g17, hf⟩ := bn1_e hf
          refine w_ald hx hb hK hw 14 rfl g17 dX7_isAhead_92 ?_
          refine lv_aload_n hx hb dX7_isAhead_93 rfl (lv_at hl 0 rfl) ?_
          refine w_get hx hb hts hi7 hown hK hw 0 rfl rfl 40 (by decide) q2 rfl (v := .ref (o 14)) rfl dX7_isAhead_94 ?_
          refine lv_iload_n hx hb dX7_isAhead_97 rfl (lv_at hl 2 rfl) ?_
          obtain ⟨x18, g19, hf⟩ := bn1_e hf
          refine w_ald hx hb hK hw 14 rfl g19 dX7_isAhead_98 ?_
          refine lv_icmp_ne (tgt := 121) hx hb dX7_isAhead_99 (by decide) (fun c20 => ?_) (fun c20 => ?_)
          · have hf := if_f c20 hf
            refine lv_iconst (v := 0) hx hb dX7_isAhead_121 (by decide) ?_
            have e0_ := sm1 hf
            exact hret _ _ _ _ _ hw e0_ (Or.inr (Or.inl rfl)) dX7_isAhead_122
          · have hf := if_t c20 hf
            refine lv_aload_n hx hb dX7_isAhead_102 rfl (lv_at hl 0 rfl) ?_
            refine w_get hx hb hts hi7 hown hK hw 0 rfl rfl 39 (by decide) q3 rfl (v := .ref (o 13)) rfl dX7_isAhead_103 ?_
            refine lv_iload_n hx hb dX7_isAhead_106 rfl (lv_at hl 1 rfl) ?_
            obtain ⟨x21, g22, hf⟩ := bn1_e hf
            refine w_ald hx hb hK hw 13 rfl g22 dX7_isAhead_107 ?_
            refine lv_aload_n hx hb dX7_isAhead_108 rfl (lv_at hl 0 rfl) ?_
            refine w_get hx hb hts hi7 hown hK hw 0 rfl rfl 39 (by decide) q3 rfl (v := .ref (o 13)) rfl dX7_isAhead_109 ?_
            refine lv_iload_n hx hb dX7_isAhead_112 rfl (lv_at hl 2 rfl) ?_
            obtain ⟨x23, g24, hf⟩ := bn1_e hf
            refine w_ald hx hb hK hw 13 rfl g24 dX7_isAhead_113 ?_
            refine lv_icmp_ge (tgt := 121) hx hb dX7_isAhead_114 (by decide) (fun c25 => ?_) (fun c25 => ?_)
            · have hf := if_t c25 hf
              refine lv_iconst (v := 0) hx hb dX7_isAhead_121 (by decide) ?_
              have e0_ := sm1 hf
              exact hret _ _ _ _ _ hw e0_ (Or.inr (Or.inl rfl)) dX7_isAhead_122
            · have hf := if_f c25 hf
              refine lv_iconst (v := 1) hx hb dX7_isAhead_117 (by decide) ?_
              refine lv_goto (tgt := 122) hx hb dX7_isAhead_118 (by decide) ?_
              have e0_ := sm1 hf
              exact hret _ _ _ _ _ hw e0_ (Or.inr (Or.inr rfl)) dX7_isAhead_122
      · have hf := if_f c10 hf
        refine lv_aload_n hx hb dX7_isAhead_51 rfl (lv_at hl 0 rfl) ?_
        refine w_get hx hb hts hi7 hown hK hw 0 rfl rfl 41 (by decide) q1 rfl (v := .ref (o 15)) rfl dX7_isAhead_52 ?_
        refine lv_iload_n hx hb dX7_isAhead_55 rfl (lv_at hl 1 rfl) ?_
        obtain ⟨x26, g27, hf⟩ := bn1_e hf
        refine w_ald hx hb hK hw 15 rfl g27 dX7_isAhead_56 ?_
        refine lv_aload_n hx hb dX7_isAhead_57 rfl (lv_at hl 0 rfl) ?_
        refine w_get hx hb hts hi7 hown hK hw 0 rfl rfl 41 (by decide) q1 rfl (v := .ref (o 15)) rfl dX7_isAhead_58 ?_
        refine lv_iload_n hx hb dX7_isAhead_61 rfl (lv_at hl 2 rfl) ?_
        obtain ⟨x28, g29, hf⟩ := bn1_e hf
        refine w_ald hx hb hK hw 15 rfl g29 dX7_isAhead_62 ?_
        refine lv_icmp_ge (tgt := 70) hx hb dX7_isAhead_63 (by decide) (fun c30 => ?_) (fun c30 => ?_)
        · have hf := if_t c30 hf
          refine lv_iconst (v := 0) hx hb dX7_isAhead_70 (by decide) ?_
          have e0_ := sm1 hf
          exact hret _ _ _ _ _ hw e0_ (Or.inr (Or.inl rfl)) dX7_isAhead_71
        · have hf := if_f c30 hf
          refine lv_iconst (v := 1) hx hb dX7_isAhead_66 (by decide) ?_
          refine lv_goto (tgt := 71) hx hb dX7_isAhead_67 (by decide) ?_
          have e0_ := sm1 hf
          exact hret _ _ _ _ _ hw e0_ (Or.inr (Or.inr rfl)) dX7_isAhead_71
    · have hf := if_f c5 hf
      refine lv_aload_n hx hb dX7_isAhead_15 rfl (lv_at hl 0 rfl) ?_
      refine w_get hx hb hts hi7 hown hK hw 0 rfl rfl 42 (by decide) q0 rfl (v := .ref (o 16)) rfl dX7_isAhead_16 ?_
      refine lv_iload_n hx hb dX7_isAhead_19 rfl (lv_at hl 1 rfl) ?_
      obtain ⟨x31, g32, hf⟩ := bn1_e hf
      refine w_ald hx hb hK hw 16 rfl g32 dX7_isAhead_20 ?_
      refine lv_aload_n hx hb dX7_isAhead_21 rfl (lv_at hl 0 rfl) ?_
      refine w_get hx hb hts hi7 hown hK hw 0 rfl rfl 42 (by decide) q0 rfl (v := .ref (o 16)) rfl dX7_isAhead_22 ?_
      refine lv_iload_n hx hb dX7_isAhead_25 rfl (lv_at hl 2 rfl) ?_
      obtain ⟨x33, g34, hf⟩ := bn1_e hf
      refine w_ald hx hb hK hw 16 rfl g34 dX7_isAhead_26 ?_
      refine lv_icmp_le (tgt := 34) hx hb dX7_isAhead_27 (by decide) (fun c35 => ?_) (fun c35 => ?_)
      · have hf := if_t c35 hf
        refine lv_iconst (v := 0) hx hb dX7_isAhead_34 (by decide) ?_
        have e0_ := sm1 hf
        exact hret _ _ _ _ _ hw e0_ (Or.inr (Or.inl rfl)) dX7_isAhead_35
      · have hf := if_f c35 hf
        refine lv_iconst (v := 1) hx hb dX7_isAhead_30 (by decide) ?_
        refine lv_goto (tgt := 35) hx hb dX7_isAhead_31 (by decide) ?_
        have e0_ := sm1 hf
        exact hret _ _ _ _ _ hw e0_ (Or.inr (Or.inr rfl)) dX7_isAhead_35
  rw [hH, hlc] at goal
  exact goal
abbrev rmX7_swapSpots : Room := { frames := 1, cells := 0, slots := 0, locals := 23 }
theorem hd_X7_swapSpots : yX7_swapSpots.cls = RX7 ∧ yX7_swapSpots.cls ≠ "java/lang/invoke/MethodHandle" ∧ yX7_swapSpots.cls ≠ "java/lang/invoke/VarHandle" ∧ (parseMethodDescriptor yX7_swapSpots.desc).map (fun d => d.parameters.length) = some 2 := by decide +kernel
set_option maxHeartbeats 4000000 in
set_option maxRecDepth 100000 in
theorem k_X7_swapSpots (l : Launch) (D : va_G) (cA : ClassId) (o : Nat → Nat) (oM : St) (a1 : Int32) (a2 : Int32) (oM' : St) (hf : f_X7_swapSpots oM a1 a2 = some (oM')) : Mv l yX7_swapSpots wsX7_swapSpots rmX7_swapSpots D cA z_0 [.ref (o 0), .int a1, .int a2] (wX7 o cA oM) (wX7 o cA oM') := by
  refine Mv.of (cc := cX7_swapSpots) (maxL := 3) (by decide) rfl (Nat.le_of_ble_eq_true rfl) ?_
  intro p e s m below meth c A Q hx hb hml hown hts hK hA hZ hret ls hl hw
  replace hown : s.vm.findClass RX7 = some m.cls := hown
  have hl : lv_has ls 3 [(0, .ref (o 0)), (1, .int a1), (2, .int a2)] := hl
  have hZo := z_0_ok
  have hi7 : ∀ w ∈ wsX70, w ∈ wsX7_swapSpots := fun w h => List.mem_cons_of_mem _ (List.mem_append_right _ h)
  have q0 := hts (.fieldLink RX7 46 "ArcRingsModel" "spotX" "[I") (by decide +kernel)
  have q1 := hts (.fieldLink RX7 49 "ArcRingsModel" "spotY" "[I") (by decide +kernel)
  have q2 := hts (.fieldLink RX7 52 "ArcRingsModel" "spotR" "[I") (by decide +kernel)
  have q3 := hts (.fieldLink RX7 55 "ArcRingsModel" "spotVotes" "[I") (by decide +kernel)
  unfold f_X7_swapSpots at hf
  obtain ⟨H, hH⟩ : ∃ H, H = s.heap := ⟨_, rfl⟩
  obtain ⟨locs, hlc⟩ : ∃ locs : List Loc, locs = [] := ⟨_, rfl⟩
  have hw : Wd D A s.heap H locs (wX7 o cA oM) := by rw [hH, hlc]; exact hw
  have goal : W p l e rmX7_swapSpots s m ([.ref (o 0), .int a1, .int a2] : List Value).toArray below meth c H locs 0 0 Q (F0 m 0 ls []) := by
    clear hH hlc
    refine lv_aload_n hx hb dX7_swapSpots_0 rfl (lv_at hl 0 rfl) ?_
    refine w_get hx hb hts hi7 hown hK hw 0 rfl rfl 39 (by decide) q0 rfl (v := .ref (o 13)) rfl dX7_swapSpots_1 ?_
    refine lv_iload_n hx hb dX7_swapSpots_4 rfl (lv_at hl 1 rfl) ?_
    refine lv_iload_n hx hb dX7_swapSpots_5 rfl (lv_at hl 2 rfl) ?_
    obtain ⟨f1, g2, hf⟩ := bn1_e hf
    have fr := fr_X7_F_arroM39 o cA oM f1
    refine go_v (run_s (As := [.ref (o 13), .int a1, .int a2]) (rest := []) ⟨hx, hb, hml, hown, hts⟩ (k_X7_swap l D cA (fun _ => o 13) (oM.2.2 39) a1 a2 f1 g2 H.size) (va_cwS 3 hts gX7_swapSpots_X7_swap rfl rfl rfl hd_X7_swap ⟨Nat.le_of_ble_eq_true rfl, Nat.le_of_ble_eq_true rfl⟩) fr hw hK hA rfl hl.1 rfl (Nat.le_of_ble_eq_true rfl) dX7_swapSpots_6 ⟨Nat.zero_le _, Nat.zero_le _⟩) fr hw hA (fun H locs hw => ?_)
    refine lv_aload_n hx hb dX7_swapSpots_9 rfl (lv_at hl 0 rfl) ?_
    refine w_get hx hb hts hi7 hown hK hw 0 rfl rfl 40 (by decide) q1 rfl (v := .ref (o 14)) rfl dX7_swapSpots_10 ?_
    refine lv_iload_n hx hb dX7_swapSpots_13 rfl (lv_at hl 1 rfl) ?_
    refine lv_iload_n hx hb dX7_swapSpots_14 rfl (lv_at hl 2 rfl) ?_
    obtain ⟨f3, g4, hf⟩ := bn1_e hf
    have fr := fr_X7_F_arroM40 o cA ((sR oM 39 f1)) f3
    refine go_v (run_s (As := [.ref (o 14), .int a1, .int a2]) (rest := []) ⟨hx, hb, hml, hown, hts⟩ (k_X7_swap l D cA (fun _ => o 14) (oM.2.2 40) a1 a2 f3 g4 H.size) (va_cwS 3 hts gX7_swapSpots_X7_swap rfl rfl rfl hd_X7_swap ⟨Nat.le_of_ble_eq_true rfl, Nat.le_of_ble_eq_true rfl⟩) fr hw hK hA rfl hl.1 rfl (Nat.le_of_ble_eq_true rfl) dX7_swapSpots_15 ⟨Nat.zero_le _, Nat.zero_le _⟩) fr hw hA (fun H locs hw => ?_)
    refine lv_aload_n hx hb dX7_swapSpots_18 rfl (lv_at hl 0 rfl) ?_
    refine w_get hx hb hts hi7 hown hK hw 0 rfl rfl 41 (by decide) q2 rfl (v := .ref (o 15)) rfl dX7_swapSpots_19 ?_
    refine lv_iload_n hx hb dX7_swapSpots_22 rfl (lv_at hl 1 rfl) ?_
    refine lv_iload_n hx hb dX7_swapSpots_23 rfl (lv_at hl 2 rfl) ?_
    obtain ⟨f5, g6, hf⟩ := bn1_e hf
    have fr := fr_X7_F_arroM41 o cA ((sR (sR oM 39 f1) 40 f3)) f5
    refine go_v (run_s (As := [.ref (o 15), .int a1, .int a2]) (rest := []) ⟨hx, hb, hml, hown, hts⟩ (k_X7_swap l D cA (fun _ => o 15) (oM.2.2 41) a1 a2 f5 g6 H.size) (va_cwS 3 hts gX7_swapSpots_X7_swap rfl rfl rfl hd_X7_swap ⟨Nat.le_of_ble_eq_true rfl, Nat.le_of_ble_eq_true rfl⟩) fr hw hK hA rfl hl.1 rfl (Nat.le_of_ble_eq_true rfl) dX7_swapSpots_24 ⟨Nat.zero_le _, Nat.zero_le _⟩) fr hw hA (fun H locs hw => ?_)
    refine lv_aload_n hx hb dX7_swapSpots_27 rfl (lv_at hl 0 rfl) ?_
    refine w_get hx hb hts hi7 hown hK hw 0 rfl rfl 42 (by decide) q3 rfl (v := .ref (o 16)) rfl dX7_swapSpots_28 ?_
    refine lv_iload_n hx hb dX7_swapSpots_31 rfl (lv_at hl 1 rfl) ?_
    refine lv_iload_n hx hb dX7_swapSpots_32 rfl (lv_at hl 2 rfl) ?_
    obtain ⟨f7, g8, hf⟩ := bn1_e hf
    have fr := fr_X7_F_arroM42 o cA ((sR (sR (sR oM 39 f1) 40 f3) 41 f5)) f7
    refine go_v (run_s (As := [.ref (o 16), .int a1, .int a2]) (rest := []) ⟨hx, hb, hml, hown, hts⟩ (k_X7_swap l D cA (fun _ => o 16) (oM.2.2 42) a1 a2 f7 g8 H.size) (va_cwS 3 hts gX7_swapSpots_X7_swap rfl rfl rfl hd_X7_swap ⟨Nat.le_of_ble_eq_true rfl, Nat.le_of_ble_eq_true rfl⟩) fr hw hK hA rfl hl.1 rfl (Nat.le_of_ble_eq_true rfl) dX7_swapSpots_33 ⟨Nat.zero_le _, Nat.zero_le _⟩) fr hw hA (fun H locs hw => ?_)
    have e0_ := sm1 hf
    exact hret _ _ _ _ (by rw [← e0_]; exact hw) dX7_swapSpots_36
  rw [hH, hlc] at goal
  exact goal
abbrev rmX7_layVote : Room := { frames := 4, cells := 0, slots := 0, locals := 103 }
theorem hd_X7_layVote : yX7_layVote.cls = RX7 ∧ yX7_layVote.cls ≠ "java/lang/invoke/MethodHandle" ∧ yX7_layVote.cls ≠ "java/lang/invoke/VarHandle" ∧ (parseMethodDescriptor yX7_layVote.desc).map (fun d => d.parameters.length) = some 3 := by decide +kernel
set_option maxHeartbeats 4000000 in
set_option maxRecDepth 100000 in
theorem k_X7_layVote (l : Launch) (D : va_G) (cA : ClassId) (o : Nat → Nat) (oM : St) (a1 : Int32) (a2 : Int32) (a3 : Int32) (oM' : St) (hf : f_X7_layVote oM a1 a2 a3 = some (oM')) : Mv l yX7_layVote wsX7_layVote rmX7_layVote D cA z_0 [.ref (o 0), .int a1, .int a2, .int a3] (wX7 o cA oM) (wX7 o cA oM') := by
  refine Mv.of (cc := cX7_layVote) (maxL := 4) (by decide) rfl (Nat.le_of_ble_eq_true rfl) ?_
  intro p e s m below meth c A Q hx hb hml hown hts hK hA hZ hret ls hl hw
  replace hown : s.vm.findClass RX7 = some m.cls := hown
  have hl : lv_has ls 4 [(0, .ref (o 0)), (1, .int a1), (2, .int a2), (3, .int a3)] := hl
  have hZo := z_0_ok
  have hi7 : ∀ w ∈ wsX70, w ∈ wsX7_layVote := fun w h => List.mem_cons_of_mem _ (List.mem_append_right _ h)
  have q0 := hts (.fieldLink RX7 269 "ArcRingsModel" "circlesAll" "I") (by decide +kernel)
  have q1 := hts (.fieldLink RX7 266 "ArcRingsModel" "votesAll" "I") (by decide +kernel)
  unfold f_X7_layVote at hf
  obtain ⟨H, hH⟩ : ∃ H, H = s.heap := ⟨_, rfl⟩
  obtain ⟨locs, hlc⟩ : ∃ locs : List Loc, locs = [] := ⟨_, rfl⟩
  have hw : Wd D A s.heap H locs (wX7 o cA oM) := by rw [hH, hlc]; exact hw
  have goal : W p l e rmX7_layVote s m ([.ref (o 0), .int a1, .int a2, .int a3] : List Value).toArray below meth c H locs 0 0 Q (F0 m 0 ls []) := by
    clear hH hlc
    refine lv_aload_n hx hb dX7_layVote_0 rfl (lv_at hl 0 rfl) ?_
    refine lv_iload_n hx hb dX7_layVote_1 rfl (lv_at hl 1 rfl) ?_
    refine lv_iload_n hx hb dX7_layVote_2 rfl (lv_at hl 2 rfl) ?_
    refine lv_iload_n hx hb dX7_layVote_3 rfl (lv_at hl 3 rfl) ?_
    obtain ⟨x1, oM2, g3, hf⟩ := bn2_e hf
    have fr := fr_X7_X7_oM o cA oM oM2
    refine go_i (run_v (As := [.int a1, .int a2, .int a3]) (rest := []) ⟨hx, hb, hml, hown, hts⟩ (k_X7_layMiddle l D cA o oM a1 a2 a3 x1 oM2 g3 H.size) (cwV 3 hts gX7_layVote_X7_layMiddle rfl rfl rfl hd_X7_layMiddle ⟨Nat.le_of_ble_eq_true rfl, Nat.le_of_ble_eq_true rfl⟩) fr hw hK hA hZo hZ (ci := 7) rfl rfl rfl rfl hl.1 rfl (Nat.le_of_ble_eq_true rfl) dX7_layVote_4 ⟨Nat.zero_le _, Nat.zero_le _⟩) fr hw hA (fun H locs hw => ?_)
    refine lv_if_eq (tgt := 44) hx hb dX7_layVote_7 (by decide) (fun c4 => ?_) (fun c4 => ?_)
    · have hf := if_t c4 hf
      have e0_ := sm1 hf
      exact hret _ _ _ _ (by rw [← e0_]; exact hw) dX7_layVote_44
    · have hf := if_f c4 hf
      refine lv_aload_n hx hb dX7_layVote_10 rfl (lv_at hl 0 rfl) ?_
      refine lv_dup hx hb dX7_layVote_11 rfl ?_
      refine w_get hx hb hts hi7 hown hK hw 0 rfl rfl 38 (by decide) q0 rfl (v := .int (oM2.1 38)) rfl dX7_layVote_12 ?_
      refine lv_iconst (v := 1) hx hb dX7_layVote_15 (by decide) ?_
      refine lv_iadd hx hb dX7_layVote_16 ?_
      refine w_put (ws' := (wX7 o cA ((sI oM2 38 ((oM2.1 38) + 1))))) hx hb hts hi7 tyX7 tyX7_ok nmX7 hown hK hw 0 rfl rfl 38 (by decide) q0 rfl rfl rfl rfl (Nat.le_of_ble_eq_true rfl) rfl dX7_layVote_17 (fun H locs hw => ?_)
      refine lv_aload_n hx hb dX7_layVote_20 rfl (lv_at hl 0 rfl) ?_
      refine lv_iload_n hx hb dX7_layVote_21 rfl (lv_at hl 1 rfl) ?_
      refine lv_iload_n hx hb dX7_layVote_22 rfl (lv_at hl 2 rfl) ?_
      refine lv_iload_n hx hb dX7_layVote_23 rfl (lv_at hl 3 rfl) ?_
      obtain ⟨x5, oM6, g7, hf⟩ := bn2_e hf
      have fr := fr_X7_X7_oM o cA ((sI oM2 38 ((oM2.1 38) + 1))) oM6
      refine go_i (run_v (As := [.int a1, .int a2, .int a3]) (rest := []) ⟨hx, hb, hml, hown, hts⟩ (k_X7_isVote l D cA o ((sI oM2 38 ((oM2.1 38) + 1))) a1 a2 a3 x5 oM6 g7 H.size) (cwV 3 hts gX7_layVote_X7_isVote rfl rfl rfl hd_X7_isVote ⟨Nat.le_of_ble_eq_true rfl, Nat.le_of_ble_eq_true rfl⟩) fr hw hK hA hZo hZ (ci := 7) rfl rfl rfl rfl hl.1 rfl (Nat.le_of_ble_eq_true rfl) dX7_layVote_24 ⟨Nat.zero_le _, Nat.zero_le _⟩) fr hw hA (fun H locs hw => ?_)
      refine lv_if_eq (tgt := 44) hx hb dX7_layVote_27 (by decide) (fun c8 => ?_) (fun c8 => ?_)
      · have hf := if_t c8 hf
        have e0_ := sm1 hf
        exact hret _ _ _ _ (by rw [← e0_]; exact hw) dX7_layVote_44
      · have hf := if_f c8 hf
        refine lv_aload_n hx hb dX7_layVote_30 rfl (lv_at hl 0 rfl) ?_
        refine lv_dup hx hb dX7_layVote_31 rfl ?_
        refine w_get hx hb hts hi7 hown hK hw 0 rfl rfl 37 (by decide) q1 rfl (v := .int (oM6.1 37)) rfl dX7_layVote_32 ?_
        refine lv_iconst (v := 1) hx hb dX7_layVote_35 (by decide) ?_
        refine lv_iadd hx hb dX7_layVote_36 ?_
        refine w_put (ws' := (wX7 o cA ((sI oM6 37 ((oM6.1 37) + 1))))) hx hb hts hi7 tyX7 tyX7_ok nmX7 hown hK hw 0 rfl rfl 37 (by decide) q1 rfl rfl rfl rfl (Nat.le_of_ble_eq_true rfl) rfl dX7_layVote_37 (fun H locs hw => ?_)
        refine lv_aload_n hx hb dX7_layVote_40 rfl (lv_at hl 0 rfl) ?_
        obtain ⟨oM9, g10, hf⟩ := bn1_e hf
        have fr := fr_X7_X7_oM o cA ((sI oM6 37 ((oM6.1 37) + 1))) oM9
        refine go_v (run_v (As := []) (rest := []) ⟨hx, hb, hml, hown, hts⟩ (k_X7_vote l D cA o ((sI oM6 37 ((oM6.1 37) + 1))) oM9 g10 H.size) (cwV 0 hts gX7_layVote_X7_vote rfl rfl rfl hd_X7_vote ⟨Nat.le_of_ble_eq_true rfl, Nat.le_of_ble_eq_true rfl⟩) fr hw hK hA hZo hZ (ci := 7) rfl rfl rfl rfl hl.1 rfl (Nat.le_of_ble_eq_true rfl) dX7_layVote_41 ⟨Nat.zero_le _, Nat.zero_le _⟩) fr hw hA (fun H locs hw => ?_)
        have e0_ := sm1 hf
        exact hret _ _ _ _ (by rw [← e0_]; exact hw) dX7_layVote_44
  rw [hH, hlc] at goal
  exact goal
abbrev rmX7_laySpots : Room := { frames := 5, cells := 0, slots := 0, locals := 126 }
theorem hd_X7_laySpots : yX7_laySpots.cls = RX7 ∧ yX7_laySpots.cls ≠ "java/lang/invoke/MethodHandle" ∧ yX7_laySpots.cls ≠ "java/lang/invoke/VarHandle" ∧ (parseMethodDescriptor yX7_laySpots.desc).map (fun d => d.parameters.length) = some 0 := by decide +kernel
set_option maxHeartbeats 4000000 in
set_option maxRecDepth 100000 in
theorem k_X7_laySpots (l : Launch) (D : va_G) (cA : ClassId) (o : Nat → Nat) (oM : St) (oM' : St) (hf : f_X7_laySpots oM = some (oM')) : Mv l yX7_laySpots wsX7_laySpots rmX7_laySpots D cA z_0 [.ref (o 0)] (wX7 o cA oM) (wX7 o cA oM') := by
  refine Mv.of (cc := cX7_laySpots) (maxL := 4) (by decide) rfl (Nat.le_of_ble_eq_true rfl) ?_
  intro p e s m below meth c A Q hx hb hml hown hts hK hA hZ hret ls hl hw
  replace hown : s.vm.findClass RX7 = some m.cls := hown
  have hl : lv_has ls 4 [(0, .ref (o 0))] := hl
  have hZo := z_0_ok
  have hi7 : ∀ w ∈ wsX70, w ∈ wsX7_laySpots := fun w h => List.mem_cons_of_mem _ (List.mem_append_right _ h)
  have q0 := hts (.fieldLink RX7 259 "ArcRingsModel" "spotMany" "I") (by decide +kernel)
  have q1 := hts (.fieldLink RX7 266 "ArcRingsModel" "votesAll" "I") (by decide +kernel)
  have q2 := hts (.fieldLink RX7 269 "ArcRingsModel" "circlesAll" "I") (by decide +kernel)
  have q3 := hts (.fieldLink RX7 121 "ArcRingsModel" "dots" "I") (by decide +kernel)
  have h_L41 : ∀ (v1 : Int32) (v2 : Int32) (K : St → Option (St)), (∀ (z0 : St), K z0 = some (oM') → ∀ (H : Heap) (locs : List Loc) (ls : Array Slot), Wd D A s.heap H locs (wX7 o cA z0) → lv_has ls 4 [(0, .ref (o 0)), (1, .int v1), (2, .int v2)] → W p l e rmX7_laySpots s m ([.ref (o 0)] : List Value).toArray below meth c H locs 0 0 Q (F0 m 62 ls [])) → ∀ (n : Nat) (v3 : Int32) (oM : St), f_X7_laySpots_L41 v1 v2 K n v3 oM = some (oM') → ∀ (H : Heap) (locs : List Loc) (ls : Array Slot), Wd D A s.heap H locs (wX7 o cA oM) → lv_has ls 4 [(0, .ref (o 0)), (1, .int v1), (2, .int v2), (3, .int v3)] → W p l e rmX7_laySpots s m ([.ref (o 0)] : List Value).toArray below meth c H locs 0 0 Q (F0 m 41 ls []) := by
    intro v1 v2 K hK9 n
    induction n with
    | zero =>
      intro v3 oM hf
      have hf : none = some (oM') := hf
      cases hf
    | succ n ih =>
      intro v3 oM hf H locs ls hw hl
      have hf := (f_X7_laySpots_L41_s v1 v2 K n v3 oM).symm.trans hf
      refine lv_iload_n hx hb dX7_laySpots_41 rfl (lv_at hl 3 rfl) ?_
      refine lv_aload_n hx hb dX7_laySpots_42 rfl (lv_at hl 0 rfl) ?_
      refine w_get hx hb hts hi7 hown hK hw 0 rfl rfl 5 (by decide) q3 rfl (v := .int (oM.1 5)) rfl dX7_laySpots_43 ?_
      refine lv_icmp_ge (tgt := 62) hx hb dX7_laySpots_46 (by decide) (fun c3 => ?_) (fun c3 => ?_)
      · have hf := if_t c3 hf
        exact hK9 oM hf H locs ls hw (lv_sub hl [0, 1, 2] rfl)
      · have hf := if_f c3 hf
        refine lv_aload_n hx hb dX7_laySpots_49 rfl (lv_at hl 0 rfl) ?_
        refine lv_iload_n hx hb dX7_laySpots_50 rfl (lv_at hl 1 rfl) ?_
        refine lv_iload_n hx hb dX7_laySpots_51 rfl (lv_at hl 2 rfl) ?_
        refine lv_iload_n hx hb dX7_laySpots_52 rfl (lv_at hl 3 rfl) ?_
        obtain ⟨oM4, g5, hf⟩ := bn1_e hf
        have fr := fr_X7_X7_oM o cA oM oM4
        refine go_v (run_v (As := [.int v1, .int v2, .int v3]) (rest := []) ⟨hx, hb, hml, hown, hts⟩ (k_X7_layVote l D cA o oM v1 v2 v3 oM4 g5 H.size) (cwV 3 hts gX7_laySpots_X7_layVote rfl rfl rfl hd_X7_layVote ⟨Nat.le_of_ble_eq_true rfl, Nat.le_of_ble_eq_true rfl⟩) fr hw hK hA hZo hZ (ci := 7) rfl rfl rfl rfl hl.1 rfl (Nat.le_of_ble_eq_true rfl) dX7_laySpots_53 ⟨Nat.zero_le _, Nat.zero_le _⟩) fr hw hA (fun H locs hw => ?_)
        refine lv_iinc (v := v3 + 1) (lv' := [(3, .int (v3 + 1)), (0, .ref (o 0)), (1, .int v1), (2, .int v2)]) hx hb dX7_laySpots_56 hl (k := 3) rfl (by rfl) (by decide) rfl (fun ls hl => ?_)
        refine lv_goto (tgt := 41) hx hb dX7_laySpots_59 (by decide) ?_
        exact ih (v3 + 1) oM4 hf H locs ls hw (lv_sub hl [1, 2, 3, 0] rfl)
  have h_L29 : ∀ (v1 : Int32) (K : St → Option (St)), (∀ (z0 : St), K z0 = some (oM') → ∀ (H : Heap) (locs : List Loc) (ls : Array Slot), Wd D A s.heap H locs (wX7 o cA z0) → lv_has ls 4 [(0, .ref (o 0)), (1, .int v1)] → W p l e rmX7_laySpots s m ([.ref (o 0)] : List Value).toArray below meth c H locs 0 0 Q (F0 m 68 ls [])) → ∀ (n : Nat) (v2 : Int32) (oM : St), f_X7_laySpots_L29 v1 K n v2 oM = some (oM') → ∀ (H : Heap) (locs : List Loc) (ls : Array Slot), Wd D A s.heap H locs (wX7 o cA oM) → lv_has ls 4 [(0, .ref (o 0)), (1, .int v1), (2, .int v2)] → W p l e rmX7_laySpots s m ([.ref (o 0)] : List Value).toArray below meth c H locs 0 0 Q (F0 m 29 ls []) := by
    intro v1 K hK9 n
    induction n with
    | zero =>
      intro v2 oM hf
      have hf : none = some (oM') := hf
      cases hf
    | succ n ih =>
      intro v2 oM hf H locs ls hw hl
      have hf := (f_X7_laySpots_L29_s v1 K n v2 oM).symm.trans hf
      refine lv_iload_n hx hb dX7_laySpots_29 rfl (lv_at hl 2 rfl) ?_
      refine lv_aload_n hx hb dX7_laySpots_30 rfl (lv_at hl 0 rfl) ?_
      refine w_get hx hb hts hi7 hown hK hw 0 rfl rfl 5 (by decide) q3 rfl (v := .int (oM.1 5)) rfl dX7_laySpots_31 ?_
      refine lv_icmp_ge (tgt := 68) hx hb dX7_laySpots_34 (by decide) (fun c2 => ?_) (fun c2 => ?_)
      · have hf := if_t c2 hf
        exact hK9 oM hf H locs ls hw (lv_sub hl [0, 1] rfl)
      · have hf := if_f c2 hf
        refine lv_iload_n hx hb dX7_laySpots_37 rfl (lv_at hl 2 rfl) ?_
        refine lv_iconst (v := 1) hx hb dX7_laySpots_38 (by decide) ?_
        refine lv_iadd hx hb dX7_laySpots_39 ?_
        refine lv_istore_n (lv' := [(3, .int (v2 + 1)), (0, .ref (o 0)), (1, .int v1), (2, .int v2)]) hx hb dX7_laySpots_40 rfl hl (by decide) rfl (fun ls hl => ?_)
        refine h_L41 v1 v2 _ ?_ _ (v2 + 1) oM hf H locs ls hw (lv_sub hl [1, 2, 3, 0] rfl)
        intro oM6 hf H locs ls hw hl
        refine lv_iinc (v := v2 + 1) (lv' := [(2, .int (v2 + 1)), (0, .ref (o 0)), (1, .int v1)]) hx hb dX7_laySpots_62 hl (k := 2) rfl (by rfl) (by decide) rfl (fun ls hl => ?_)
        refine lv_goto (tgt := 29) hx hb dX7_laySpots_65 (by decide) ?_
        exact ih (v2 + 1) oM6 hf H locs ls hw (lv_sub hl [1, 2, 0] rfl)
  have h_L17 : ∀ (K : St → Option (St)), (∀ (z0 : St), K z0 = some (oM') → ∀ (H : Heap) (locs : List Loc) (ls : Array Slot), Wd D A s.heap H locs (wX7 o cA z0) → lv_has ls 4 [(0, .ref (o 0))] → W p l e rmX7_laySpots s m ([.ref (o 0)] : List Value).toArray below meth c H locs 0 0 Q (F0 m 74 ls [])) → ∀ (n : Nat) (v1 : Int32) (oM : St), f_X7_laySpots_L17 K n v1 oM = some (oM') → ∀ (H : Heap) (locs : List Loc) (ls : Array Slot), Wd D A s.heap H locs (wX7 o cA oM) → lv_has ls 4 [(0, .ref (o 0)), (1, .int v1)] → W p l e rmX7_laySpots s m ([.ref (o 0)] : List Value).toArray below meth c H locs 0 0 Q (F0 m 17 ls []) := by
    intro K hK9 n
    induction n with
    | zero =>
      intro v1 oM hf
      have hf : none = some (oM') := hf
      cases hf
    | succ n ih =>
      intro v1 oM hf H locs ls hw hl
      have hf := (f_X7_laySpots_L17_s K n v1 oM).symm.trans hf
      refine lv_iload_n hx hb dX7_laySpots_17 rfl (lv_at hl 1 rfl) ?_
      refine lv_aload_n hx hb dX7_laySpots_18 rfl (lv_at hl 0 rfl) ?_
      refine w_get hx hb hts hi7 hown hK hw 0 rfl rfl 5 (by decide) q3 rfl (v := .int (oM.1 5)) rfl dX7_laySpots_19 ?_
      refine lv_icmp_ge (tgt := 74) hx hb dX7_laySpots_22 (by decide) (fun c1 => ?_) (fun c1 => ?_)
      · have hf := if_t c1 hf
        exact hK9 oM hf H locs ls hw (lv_sub hl [0] rfl)
      · have hf := if_f c1 hf
        refine lv_iload_n hx hb dX7_laySpots_25 rfl (lv_at hl 1 rfl) ?_
        refine lv_iconst (v := 1) hx hb dX7_laySpots_26 (by decide) ?_
        refine lv_iadd hx hb dX7_laySpots_27 ?_
        refine lv_istore_n (lv' := [(2, .int (v1 + 1)), (0, .ref (o 0)), (1, .int v1)]) hx hb dX7_laySpots_28 rfl hl (by decide) rfl (fun ls hl => ?_)
        refine h_L29 v1 _ ?_ _ (v1 + 1) oM hf H locs ls hw (lv_sub hl [1, 2, 0] rfl)
        intro oM7 hf H locs ls hw hl
        refine lv_iinc (v := v1 + 1) (lv' := [(1, .int (v1 + 1)), (0, .ref (o 0))]) hx hb dX7_laySpots_68 hl (k := 1) rfl (by rfl) (by decide) rfl (fun ls hl => ?_)
        refine lv_goto (tgt := 17) hx hb dX7_laySpots_71 (by decide) ?_
        exact ih (v1 + 1) oM7 hf H locs ls hw (lv_sub hl [1, 0] rfl)
  have h_L86 : ∀ (v1 : Int32) (K : St → Option (St)), (∀ (z0 : St), K z0 = some (oM') → ∀ (H : Heap) (locs : List Loc) (ls : Array Slot), Wd D A s.heap H locs (wX7 o cA z0) → lv_has ls 4 [(0, .ref (o 0)), (1, .int v1)] → W p l e rmX7_laySpots s m ([.ref (o 0)] : List Value).toArray below meth c H locs 0 0 Q (F0 m 115 ls [])) → ∀ (n : Nat) (v2 : Int32) (oM : St), f_X7_laySpots_L86 v1 K n v2 oM = some (oM') → ∀ (H : Heap) (locs : List Loc) (ls : Array Slot), Wd D A s.heap H locs (wX7 o cA oM) → lv_has ls 4 [(0, .ref (o 0)), (1, .int v1), (2, .int v2)] → W p l e rmX7_laySpots s m ([.ref (o 0)] : List Value).toArray below meth c H locs 0 0 Q (F0 m 86 ls []) := by
    intro v1 K hK9 n
    induction n with
    | zero =>
      intro v2 oM hf
      have hf : none = some (oM') := hf
      cases hf
    | succ n ih =>
      intro v2 oM hf H locs ls hw hl
      have hf := (f_X7_laySpots_L86_s v1 K n v2 oM).symm.trans hf
      refine lv_iload_n hx hb dX7_laySpots_86 rfl (lv_at hl 2 rfl) ?_
      refine lv_if_le (tgt := 115) hx hb dX7_laySpots_87 (by decide) (fun c10 => ?_) (fun c10 => ?_)
      · have hf := if_t c10 hf
        exact hK9 oM hf H locs ls hw (lv_sub hl [0, 1] rfl)
      · have hf := if_f c10 hf
        refine lv_aload_n hx hb dX7_laySpots_90 rfl (lv_at hl 0 rfl) ?_
        refine lv_iload_n hx hb dX7_laySpots_91 rfl (lv_at hl 2 rfl) ?_
        refine lv_iload_n hx hb dX7_laySpots_92 rfl (lv_at hl 2 rfl) ?_
        refine lv_iconst (v := 1) hx hb dX7_laySpots_93 (by decide) ?_
        refine lv_isub hx hb dX7_laySpots_94 ?_
        obtain ⟨x11, g12, hf⟩ := bn1_e hf
        have fr := fr_X7_X7_oM o cA oM oM
        refine go_i (run_v (As := [.int v2, .int (v2 - 1)]) (rest := []) ⟨hx, hb, hml, hown, hts⟩ (k_X7_isAhead l D cA o oM v2 (v2 - 1) x11 g12 H.size) (cwV 2 hts gX7_laySpots_X7_isAhead rfl rfl rfl hd_X7_isAhead ⟨Nat.le_of_ble_eq_true rfl, Nat.le_of_ble_eq_true rfl⟩) fr hw hK hA hZo hZ (ci := 7) rfl rfl rfl rfl hl.1 rfl (Nat.le_of_ble_eq_true rfl) dX7_laySpots_95 ⟨Nat.zero_le _, Nat.zero_le _⟩) fr hw hA (fun H locs hw => ?_)
        refine lv_if_eq (tgt := 115) hx hb dX7_laySpots_98 (by decide) (fun c13 => ?_) (fun c13 => ?_)
        · have hf := if_t c13 hf
          exact hK9 oM hf H locs ls hw (lv_sub hl [0, 1] rfl)
        · have hf := if_f c13 hf
          refine lv_aload_n hx hb dX7_laySpots_101 rfl (lv_at hl 0 rfl) ?_
          refine lv_iload_n hx hb dX7_laySpots_102 rfl (lv_at hl 2 rfl) ?_
          refine lv_iload_n hx hb dX7_laySpots_103 rfl (lv_at hl 2 rfl) ?_
          refine lv_iconst (v := 1) hx hb dX7_laySpots_104 (by decide) ?_
          refine lv_isub hx hb dX7_laySpots_105 ?_
          obtain ⟨oM14, g15, hf⟩ := bn1_e hf
          have fr := fr_X7_X7_oM o cA oM oM14
          refine go_v (run_v (As := [.int v2, .int (v2 - 1)]) (rest := []) ⟨hx, hb, hml, hown, hts⟩ (k_X7_swapSpots l D cA o oM v2 (v2 - 1) oM14 g15 H.size) (cwV 2 hts gX7_laySpots_X7_swapSpots rfl rfl rfl hd_X7_swapSpots ⟨Nat.le_of_ble_eq_true rfl, Nat.le_of_ble_eq_true rfl⟩) fr hw hK hA hZo hZ (ci := 7) rfl rfl rfl rfl hl.1 rfl (Nat.le_of_ble_eq_true rfl) dX7_laySpots_106 ⟨Nat.zero_le _, Nat.zero_le _⟩) fr hw hA (fun H locs hw => ?_)
          refine lv_iinc (v := v2 + (-1)) (lv' := [(2, .int (v2 + (-1))), (0, .ref (o 0)), (1, .int v1)]) hx hb dX7_laySpots_109 hl (k := 2) rfl (by rfl) (by decide) rfl (fun ls hl => ?_)
          refine lv_goto (tgt := 86) hx hb dX7_laySpots_112 (by decide) ?_
          exact ih (v2 + (-1)) oM14 hf H locs ls hw (lv_sub hl [1, 2, 0] rfl)
  have h_L76 : ∀ (n : Nat) (v1 : Int32) (oM : St), f_X7_laySpots_L76  n v1 oM = some (oM') → ∀ (H : Heap) (locs : List Loc) (ls : Array Slot), Wd D A s.heap H locs (wX7 o cA oM) → lv_has ls 4 [(0, .ref (o 0)), (1, .int v1)] → W p l e rmX7_laySpots s m ([.ref (o 0)] : List Value).toArray below meth c H locs 0 0 Q (F0 m 76 ls []) := by
    intro n
    induction n with
    | zero =>
      intro v1 oM hf
      have hf : none = some (oM') := hf
      cases hf
    | succ n ih =>
      intro v1 oM hf H locs ls hw hl
      have hf := (f_X7_laySpots_L76_s  n v1 oM).symm.trans hf
      refine lv_iload_n hx hb dX7_laySpots_76 rfl (lv_at hl 1 rfl) ?_
      refine lv_aload_n hx hb dX7_laySpots_77 rfl (lv_at hl 0 rfl) ?_
      refine w_get hx hb hts hi7 hown hK hw 0 rfl rfl 36 (by decide) q0 rfl (v := .int (oM.1 36)) rfl dX7_laySpots_78 ?_
      refine lv_icmp_ge (tgt := 121) hx hb dX7_laySpots_81 (by decide) (fun c9 => ?_) (fun c9 => ?_)
      · have hf := if_t c9 hf
        have e0_ := sm1 hf
        exact hret _ _ _ _ (by rw [← e0_]; exact hw) dX7_laySpots_121
      · have hf := if_f c9 hf
        refine lv_iload_n hx hb dX7_laySpots_84 rfl (lv_at hl 1 rfl) ?_
        refine lv_istore_n (lv' := [(2, .int v1), (0, .ref (o 0)), (1, .int v1)]) hx hb dX7_laySpots_85 rfl hl (by decide) rfl (fun ls hl => ?_)
        refine h_L86 v1 _ ?_ _ v1 oM hf H locs ls hw (lv_sub hl [1, 2, 0] rfl)
        intro oM16 hf H locs ls hw hl
        refine lv_iinc (v := v1 + 1) (lv' := [(1, .int (v1 + 1)), (0, .ref (o 0))]) hx hb dX7_laySpots_115 hl (k := 1) rfl (by rfl) (by decide) rfl (fun ls hl => ?_)
        refine lv_goto (tgt := 76) hx hb dX7_laySpots_118 (by decide) ?_
        exact ih (v1 + 1) oM16 hf H locs ls hw (lv_sub hl [1, 0] rfl)
  unfold f_X7_laySpots at hf
  obtain ⟨H, hH⟩ : ∃ H, H = s.heap := ⟨_, rfl⟩
  obtain ⟨locs, hlc⟩ : ∃ locs : List Loc, locs = [] := ⟨_, rfl⟩
  have hw : Wd D A s.heap H locs (wX7 o cA oM) := by rw [hH, hlc]; exact hw
  have goal : W p l e rmX7_laySpots s m ([.ref (o 0)] : List Value).toArray below meth c H locs 0 0 Q (F0 m 0 ls []) := by
    clear hH hlc
    refine lv_aload_n hx hb dX7_laySpots_0 rfl (lv_at hl 0 rfl) ?_
    refine lv_iconst (v := 0) hx hb dX7_laySpots_1 (by decide) ?_
    refine w_put (ws' := (wX7 o cA ((sI oM 36 0)))) hx hb hts hi7 tyX7 tyX7_ok nmX7 hown hK hw 0 rfl rfl 36 (by decide) q0 rfl rfl rfl rfl (Nat.le_of_ble_eq_true rfl) rfl dX7_laySpots_2 (fun H locs hw => ?_)
    refine lv_aload_n hx hb dX7_laySpots_5 rfl (lv_at hl 0 rfl) ?_
    refine lv_iconst (v := 0) hx hb dX7_laySpots_6 (by decide) ?_
    refine w_put (ws' := (wX7 o cA ((sI (sI oM 36 0) 37 0)))) hx hb hts hi7 tyX7 tyX7_ok nmX7 hown hK hw 0 rfl rfl 37 (by decide) q1 rfl rfl rfl rfl (Nat.le_of_ble_eq_true rfl) rfl dX7_laySpots_7 (fun H locs hw => ?_)
    refine lv_aload_n hx hb dX7_laySpots_10 rfl (lv_at hl 0 rfl) ?_
    refine lv_iconst (v := 0) hx hb dX7_laySpots_11 (by decide) ?_
    refine w_put (ws' := (wX7 o cA ((sI (sI (sI oM 36 0) 37 0) 38 0)))) hx hb hts hi7 tyX7 tyX7_ok nmX7 hown hK hw 0 rfl rfl 38 (by decide) q2 rfl rfl rfl rfl (Nat.le_of_ble_eq_true rfl) rfl dX7_laySpots_12 (fun H locs hw => ?_)
    refine lv_iconst (v := 0) hx hb dX7_laySpots_15 (by decide) ?_
    refine lv_istore_n (lv' := [(1, .int 0), (0, .ref (o 0))]) hx hb dX7_laySpots_16 rfl hl (by decide) rfl (fun ls hl => ?_)
    refine h_L17  _ ?_ _ 0 ((sI (sI (sI oM 36 0) 37 0) 38 0)) hf H locs ls hw (lv_sub hl [1, 0] rfl)
    intro oM8 hf H locs ls hw hl
    refine lv_iconst (v := 1) hx hb dX7_laySpots_74 (by decide) ?_
    refine lv_istore_n (lv' := [(1, .int 1), (0, .ref (o 0))]) hx hb dX7_laySpots_75 rfl hl (by decide) rfl (fun ls hl => ?_)
    exact h_L76  _ 1 oM8 hf H locs ls hw (lv_sub hl [1, 0] rfl)
  rw [hH, hlc] at goal
  exact goal
abbrev rmX7_votes : Room := { frames := 6, cells := 0, slots := 0, locals := 149 }
theorem hd_X7_votes : yX7_votes.cls = RX7 ∧ yX7_votes.cls ≠ "java/lang/invoke/MethodHandle" ∧ yX7_votes.cls ≠ "java/lang/invoke/VarHandle" ∧ (parseMethodDescriptor yX7_votes.desc).map (fun d => d.parameters.length) = some 3 := by decide +kernel
set_option maxHeartbeats 4000000 in
set_option maxRecDepth 100000 in
theorem k_X7_votes (l : Launch) (D : va_G) (cA : ClassId) (o : Nat → Nat) (oM : St) (a1 : Int32) (a2 : Int32) (a3 : Int32) (r : Int32) (oM' : St) (hf : f_X7_votes oM a1 a2 a3 = some (r, oM')) : Mi l yX7_votes wsX7_votes rmX7_votes D cA z_0 [.ref (o 0), .int a1, .int a2, .int a3] (wX7 o cA oM) r (wX7 o cA oM') := by
  refine Mi.of (cc := cX7_votes) (maxL := 6) (ret := (some .int)) (plainFor_of_name (by decide)) rfl (Nat.le_of_ble_eq_true rfl) (Or.inl rfl) ?_
  intro p e s m below meth c A Q hx hb hml hown hts hK hA hZ hret ls hl hw
  replace hown : s.vm.findClass RX7 = some m.cls := hown
  have hl : lv_has ls 6 [(0, .ref (o 0)), (1, .int a1), (2, .int a2), (3, .int a3)] := hl
  have hZo := z_0_ok
  have hi7 : ∀ w ∈ wsX70, w ∈ wsX7_votes := fun w h => List.mem_cons_of_mem _ (List.mem_append_right _ h)
  have q0 := hts (.fieldLink RX7 259 "ArcRingsModel" "spotMany" "I") (by decide +kernel)
  have q1 := hts (.fieldLink RX7 46 "ArcRingsModel" "spotX" "[I") (by decide +kernel)
  have q2 := hts (.fieldLink RX7 49 "ArcRingsModel" "spotY" "[I") (by decide +kernel)
  have q3 := hts (.fieldLink RX7 52 "ArcRingsModel" "spotR" "[I") (by decide +kernel)
  have q4 := hts (.fieldLink RX7 55 "ArcRingsModel" "spotVotes" "[I") (by decide +kernel)
  have h_L20 : ∀ (oM : St) (v1 : Int32) (v2 : Int32) (v3 : Int32), ∀ (n : Nat) (v4 : Int32) (v5 : Int32), f_X7_votes_L20 oM v1 v2 v3 n v4 v5 = some (r, oM') → ∀ (H : Heap) (locs : List Loc) (ls : Array Slot), Wd D A s.heap H locs (wX7 o cA oM) → lv_has ls 6 [(0, .ref (o 0)), (1, .int v1), (2, .int v2), (3, .int v3), (4, .int v4), (5, .int v5)] → W p l e rmX7_votes s m ([.ref (o 0), .int a1, .int a2, .int a3] : List Value).toArray below meth c H locs 0 0 Q (F0 m 20 ls []) := by
    intro oM v1 v2 v3 n
    induction n with
    | zero =>
      intro v4 v5 hf
      have hf : none = some (r, oM') := hf
      cases hf
    | succ n ih =>
      intro v4 v5 hf H locs ls hw hl
      have hf := (f_X7_votes_L20_s oM v1 v2 v3 n v4 v5).symm.trans hf
      refine lv_iload hx hb dX7_votes_20 (lv_at hl 5 rfl) ?_
      refine lv_aload_n hx hb dX7_votes_22 rfl (lv_at hl 0 rfl) ?_
      refine w_get hx hb hts hi7 hown hK hw 0 rfl rfl 36 (by decide) q0 rfl (v := .int (oM.1 36)) rfl dX7_votes_23 ?_
      refine lv_icmp_ge (tgt := 82) hx hb dX7_votes_26 (by decide) (fun c6 => ?_) (fun c6 => ?_)
      · have hf := if_t c6 hf
        refine lv_iload hx hb dX7_votes_82 (lv_at hl 4 rfl) ?_
        obtain ⟨e0_, e1_⟩ := sm2 hf
        exact hret _ _ _ _ _ (by rw [← e1_]; exact hw) e0_ (Or.inl rfl) dX7_votes_84
      · have hf := if_f c6 hf
        refine lv_aload_n hx hb dX7_votes_29 rfl (lv_at hl 0 rfl) ?_
        refine w_get hx hb hts hi7 hown hK hw 0 rfl rfl 39 (by decide) q1 rfl (v := .ref (o 13)) rfl dX7_votes_30 ?_
        refine lv_iload hx hb dX7_votes_33 (lv_at hl 5 rfl) ?_
        obtain ⟨x7, g8, hf⟩ := bn1_e hf
        refine w_ald hx hb hK hw 13 rfl g8 dX7_votes_35 ?_
        refine lv_iload_n hx hb dX7_votes_36 rfl (lv_at hl 1 rfl) ?_
        refine lv_icmp_ne (tgt := 72) hx hb dX7_votes_37 (by decide) (fun c9 => ?_) (fun c9 => ?_)
        · have hf := if_f c9 hf
          refine lv_iload hx hb dX7_votes_72 (lv_at hl 4 rfl) ?_
          refine lv_istore (lv' := [(4, .int v4), (0, .ref (o 0)), (1, .int v1), (2, .int v2), (3, .int v3), (5, .int v5)]) hx hb dX7_votes_74 hl (by decide) rfl (fun ls hl => ?_)
          refine lv_iinc (v := v5 + 1) (lv' := [(5, .int (v5 + 1)), (4, .int v4), (0, .ref (o 0)), (1, .int v1), (2, .int v2), (3, .int v3)]) hx hb dX7_votes_76 hl (k := 5) rfl (by rfl) (by decide) rfl (fun ls hl => ?_)
          refine lv_goto (tgt := 20) hx hb dX7_votes_79 (by decide) ?_
          exact ih v4 (v5 + 1) hf H locs ls hw (lv_sub hl [2, 3, 4, 5, 1, 0] rfl)
        · have hf := if_t c9 hf
          refine lv_aload_n hx hb dX7_votes_40 rfl (lv_at hl 0 rfl) ?_
          refine w_get hx hb hts hi7 hown hK hw 0 rfl rfl 40 (by decide) q2 rfl (v := .ref (o 14)) rfl dX7_votes_41 ?_
          refine lv_iload hx hb dX7_votes_44 (lv_at hl 5 rfl) ?_
          obtain ⟨x10, g11, hf⟩ := bn1_e hf
          refine w_ald hx hb hK hw 14 rfl g11 dX7_votes_46 ?_
          refine lv_iload_n hx hb dX7_votes_47 rfl (lv_at hl 2 rfl) ?_
          refine lv_icmp_ne (tgt := 72) hx hb dX7_votes_48 (by decide) (fun c12 => ?_) (fun c12 => ?_)
          · have hf := if_f c12 hf
            refine lv_iload hx hb dX7_votes_72 (lv_at hl 4 rfl) ?_
            refine lv_istore (lv' := [(4, .int v4), (0, .ref (o 0)), (1, .int v1), (2, .int v2), (3, .int v3), (5, .int v5)]) hx hb dX7_votes_74 hl (by decide) rfl (fun ls hl => ?_)
            refine lv_iinc (v := v5 + 1) (lv' := [(5, .int (v5 + 1)), (4, .int v4), (0, .ref (o 0)), (1, .int v1), (2, .int v2), (3, .int v3)]) hx hb dX7_votes_76 hl (k := 5) rfl (by rfl) (by decide) rfl (fun ls hl => ?_)
            refine lv_goto (tgt := 20) hx hb dX7_votes_79 (by decide) ?_
            exact ih v4 (v5 + 1) hf H locs ls hw (lv_sub hl [2, 3, 4, 5, 1, 0] rfl)
          · have hf := if_t c12 hf
            refine lv_aload_n hx hb dX7_votes_51 rfl (lv_at hl 0 rfl) ?_
            refine w_get hx hb hts hi7 hown hK hw 0 rfl rfl 41 (by decide) q3 rfl (v := .ref (o 15)) rfl dX7_votes_52 ?_
            refine lv_iload hx hb dX7_votes_55 (lv_at hl 5 rfl) ?_
            obtain ⟨x13, g14, hf⟩ := bn1_e hf
            refine w_ald hx hb hK hw 15 rfl g14 dX7_votes_57 ?_
            refine lv_iload_n hx hb dX7_votes_58 rfl (lv_at hl 3 rfl) ?_
            refine lv_icmp_ne (tgt := 72) hx hb dX7_votes_59 (by decide) (fun c15 => ?_) (fun c15 => ?_)
            · have hf := if_f c15 hf
              refine lv_iload hx hb dX7_votes_72 (lv_at hl 4 rfl) ?_
              refine lv_istore (lv' := [(4, .int v4), (0, .ref (o 0)), (1, .int v1), (2, .int v2), (3, .int v3), (5, .int v5)]) hx hb dX7_votes_74 hl (by decide) rfl (fun ls hl => ?_)
              refine lv_iinc (v := v5 + 1) (lv' := [(5, .int (v5 + 1)), (4, .int v4), (0, .ref (o 0)), (1, .int v1), (2, .int v2), (3, .int v3)]) hx hb dX7_votes_76 hl (k := 5) rfl (by rfl) (by decide) rfl (fun ls hl => ?_)
              refine lv_goto (tgt := 20) hx hb dX7_votes_79 (by decide) ?_
              exact ih v4 (v5 + 1) hf H locs ls hw (lv_sub hl [2, 3, 4, 5, 1, 0] rfl)
            · have hf := if_t c15 hf
              refine lv_aload_n hx hb dX7_votes_62 rfl (lv_at hl 0 rfl) ?_
              refine w_get hx hb hts hi7 hown hK hw 0 rfl rfl 42 (by decide) q4 rfl (v := .ref (o 16)) rfl dX7_votes_63 ?_
              refine lv_iload hx hb dX7_votes_66 (lv_at hl 5 rfl) ?_
              obtain ⟨x16, g17, hf⟩ := bn1_e hf
              refine w_ald hx hb hK hw 16 rfl g17 dX7_votes_68 ?_
              refine lv_goto (tgt := 74) hx hb dX7_votes_69 (by decide) ?_
              refine lv_istore (lv' := [(4, .int x16), (0, .ref (o 0)), (1, .int v1), (2, .int v2), (3, .int v3), (5, .int v5)]) hx hb dX7_votes_74 hl (by decide) rfl (fun ls hl => ?_)
              refine lv_iinc (v := v5 + 1) (lv' := [(5, .int (v5 + 1)), (4, .int x16), (0, .ref (o 0)), (1, .int v1), (2, .int v2), (3, .int v3)]) hx hb dX7_votes_76 hl (k := 5) rfl (by rfl) (by decide) rfl (fun ls hl => ?_)
              refine lv_goto (tgt := 20) hx hb dX7_votes_79 (by decide) ?_
              exact ih x16 (v5 + 1) hf H locs ls hw (lv_sub hl [2, 3, 4, 5, 1, 0] rfl)
  unfold f_X7_votes at hf
  obtain ⟨H, hH⟩ : ∃ H, H = s.heap := ⟨_, rfl⟩
  obtain ⟨locs, hlc⟩ : ∃ locs : List Loc, locs = [] := ⟨_, rfl⟩
  have hw : Wd D A s.heap H locs (wX7 o cA oM) := by rw [hH, hlc]; exact hw
  have goal : W p l e rmX7_votes s m ([.ref (o 0), .int a1, .int a2, .int a3] : List Value).toArray below meth c H locs 0 0 Q (F0 m 0 ls []) := by
    clear hH hlc
    refine lv_aload_n hx hb dX7_votes_0 rfl (lv_at hl 0 rfl) ?_
    obtain ⟨x1, g2, hf⟩ := bn1_e hf
    have fr := fr_X7_X7_oM o cA oM oM
    refine go_i (run_v (As := []) (rest := []) ⟨hx, hb, hml, hown, hts⟩ (k_X7_isSheet l D cA o oM x1 g2 H.size) (cwV 0 hts gX7_votes_X7_isSheet rfl rfl rfl hd_X7_isSheet ⟨Nat.le_of_ble_eq_true rfl, Nat.le_of_ble_eq_true rfl⟩) fr hw hK hA hZo hZ (ci := 7) rfl rfl rfl rfl hl.1 rfl (Nat.le_of_ble_eq_true rfl) dX7_votes_1 ⟨Nat.zero_le _, Nat.zero_le _⟩) fr hw hA (fun H locs hw => ?_)
    refine lv_if_ne (tgt := 10) hx hb dX7_votes_4 (by decide) (fun c3 => ?_) (fun c3 => ?_)
    · have hf := if_f c3 hf
      refine lv_aload_n hx hb dX7_votes_10 rfl (lv_at hl 0 rfl) ?_
      obtain ⟨oM4, g5, hf⟩ := bn1_e hf
      have fr := fr_X7_X7_oM o cA oM oM4
      refine go_v (run_v (As := []) (rest := []) ⟨hx, hb, hml, hown, hts⟩ (k_X7_laySpots l D cA o oM oM4 g5 H.size) (cwV 0 hts gX7_votes_X7_laySpots rfl rfl rfl hd_X7_laySpots ⟨Nat.le_of_ble_eq_true rfl, Nat.le_of_ble_eq_true rfl⟩) fr hw hK hA hZo hZ (ci := 7) rfl rfl rfl rfl hl.1 rfl (Nat.le_of_ble_eq_true rfl) dX7_votes_11 ⟨Nat.zero_le _, Nat.zero_le _⟩) fr hw hA (fun H locs hw => ?_)
      refine lv_iconst (v := 0) hx hb dX7_votes_14 (by decide) ?_
      refine lv_istore (lv' := [(4, .int 0), (0, .ref (o 0)), (1, .int a1), (2, .int a2), (3, .int a3)]) hx hb dX7_votes_15 hl (by decide) rfl (fun ls hl => ?_)
      refine lv_iconst (v := 0) hx hb dX7_votes_17 (by decide) ?_
      refine lv_istore (lv' := [(5, .int 0), (4, .int 0), (0, .ref (o 0)), (1, .int a1), (2, .int a2), (3, .int a3)]) hx hb dX7_votes_18 hl (by decide) rfl (fun ls hl => ?_)
      exact h_L20 oM4 a1 a2 a3 _ 0 0 hf H locs ls hw (lv_sub hl [2, 3, 4, 5, 1, 0] rfl)
    · have hf := if_t c3 hf
      refine lv_bipush (v := (-103)) hx hb dX7_votes_7 (by decide) ?_
      obtain ⟨e0_, e1_⟩ := sm2 hf
      exact hret _ _ _ _ _ (by rw [← e1_]; exact hw) e0_ (Or.inl rfl) dX7_votes_9
  rw [hH, hlc] at goal
  exact goal
abbrev rmX7_farOf : Room := { frames := 0, cells := 0, slots := 0, locals := 0 }
theorem hd_X7_farOf : yX7_farOf.cls = RX7 ∧ yX7_farOf.cls ≠ "java/lang/invoke/MethodHandle" ∧ yX7_farOf.cls ≠ "java/lang/invoke/VarHandle" ∧ (parseMethodDescriptor yX7_farOf.desc).map (fun d => d.parameters.length) = some 3 := by decide +kernel
set_option maxHeartbeats 4000000 in
set_option maxRecDepth 100000 in
theorem k_X7_farOf (l : Launch) (D : va_G) (cA : ClassId) (o : Nat → Nat) (oM : St) (a1 : Int32) (a2 : Int32) (a3 : Int32) (r : Int32) (hf : f_X7_farOf oM a1 a2 a3 = some (r)) : Mi l yX7_farOf wsX7_farOf rmX7_farOf D cA z_0 [.ref (o 0), .int a1, .int a2, .int a3] (wX7 o cA oM) r (wX7 o cA oM) := by
  refine Mi.of (cc := cX7_farOf) (maxL := 6) (ret := (some .int)) (plainFor_of_name (by decide)) rfl (Nat.le_of_ble_eq_true rfl) (Or.inl rfl) ?_
  intro p e s m below meth c A Q hx hb hml hown hts hK hA hZ hret ls hl hw
  replace hown : s.vm.findClass RX7 = some m.cls := hown
  have hl : lv_has ls 6 [(0, .ref (o 0)), (1, .int a1), (2, .int a2), (3, .int a3)] := hl
  have hZo := z_0_ok
  have hi7 : ∀ w ∈ wsX70, w ∈ wsX7_farOf := fun w h => List.mem_cons_of_mem _ (List.mem_append_right _ h)
  have q0 := hts (.fieldLink RX7 13 "ArcRingsModel" "dotX" "[I") (by decide +kernel)
  have q1 := hts (.fieldLink RX7 16 "ArcRingsModel" "dotY" "[I") (by decide +kernel)
  unfold f_X7_farOf at hf
  obtain ⟨H, hH⟩ : ∃ H, H = s.heap := ⟨_, rfl⟩
  obtain ⟨locs, hlc⟩ : ∃ locs : List Loc, locs = [] := ⟨_, rfl⟩
  have hw : Wd D A s.heap H locs (wX7 o cA oM) := by rw [hH, hlc]; exact hw
  have goal : W p l e rmX7_farOf s m ([.ref (o 0), .int a1, .int a2, .int a3] : List Value).toArray below meth c H locs 0 0 Q (F0 m 0 ls []) := by
    clear hH hlc
    refine lv_iconst (v := 2) hx hb dX7_farOf_0 (by decide) ?_
    refine lv_aload_n hx hb dX7_farOf_1 rfl (lv_at hl 0 rfl) ?_
    refine w_get hx hb hts hi7 hown hK hw 0 rfl rfl 6 (by decide) q0 rfl (v := .ref (o 2)) rfl dX7_farOf_2 ?_
    refine lv_iload_n hx hb dX7_farOf_5 rfl (lv_at hl 3 rfl) ?_
    obtain ⟨x1, g2, hf⟩ := bn1_e hf
    refine w_ald hx hb hK hw 2 rfl g2 dX7_farOf_6 ?_
    refine lv_imul hx hb dX7_farOf_7 ?_
    refine lv_iconst (v := 2) hx hb dX7_farOf_8 (by decide) ?_
    refine lv_iload_n hx hb dX7_farOf_9 rfl (lv_at hl 1 rfl) ?_
    refine lv_imul hx hb dX7_farOf_10 ?_
    refine lv_isub hx hb dX7_farOf_11 ?_
    refine lv_iconst (v := 1) hx hb dX7_farOf_12 (by decide) ?_
    refine lv_isub hx hb dX7_farOf_13 ?_
    refine lv_istore (lv' := [(4, .int (((2 * x1) - (2 * a1)) - 1)), (0, .ref (o 0)), (1, .int a1), (2, .int a2), (3, .int a3)]) hx hb dX7_farOf_14 hl (by decide) rfl (fun ls hl => ?_)
    refine lv_iconst (v := 2) hx hb dX7_farOf_16 (by decide) ?_
    refine lv_aload_n hx hb dX7_farOf_17 rfl (lv_at hl 1 rfl) ?_
    refine w_get hx hb hts hi7 hown hK hw 0 rfl rfl 7 (by decide) q1 rfl (v := .ref (o 3)) rfl dX7_farOf_18 ?_
    refine lv_iload_n hx hb dX7_farOf_21 rfl (lv_at hl 4 rfl) ?_
    obtain ⟨x3, g4, hf⟩ := bn1_e hf
    refine w_ald hx hb hK hw 3 rfl g4 dX7_farOf_22 ?_
    refine lv_imul hx hb dX7_farOf_23 ?_
    refine lv_iconst (v := 2) hx hb dX7_farOf_24 (by decide) ?_
    refine lv_iload_n hx hb dX7_farOf_25 rfl (lv_at hl 3 rfl) ?_
    refine lv_imul hx hb dX7_farOf_26 ?_
    refine lv_isub hx hb dX7_farOf_27 ?_
    refine lv_iconst (v := 1) hx hb dX7_farOf_28 (by decide) ?_
    refine lv_isub hx hb dX7_farOf_29 ?_
    refine lv_istore (lv' := [(5, .int (((2 * x3) - (2 * a2)) - 1)), (4, .int (((2 * x1) - (2 * a1)) - 1)), (0, .ref (o 0)), (1, .int a1), (2, .int a2), (3, .int a3)]) hx hb dX7_farOf_30 hl (by decide) rfl (fun ls hl => ?_)
    refine lv_iload hx hb dX7_farOf_32 (lv_at hl 1 rfl) ?_
    refine lv_iload hx hb dX7_farOf_34 (lv_at hl 1 rfl) ?_
    refine lv_imul hx hb dX7_farOf_36 ?_
    refine lv_iload hx hb dX7_farOf_37 (lv_at hl 0 rfl) ?_
    refine lv_iload hx hb dX7_farOf_39 (lv_at hl 0 rfl) ?_
    refine lv_imul hx hb dX7_farOf_41 ?_
    refine lv_iadd hx hb dX7_farOf_42 ?_
    have e0_ := sm1 hf
    exact hret _ _ _ _ _ hw e0_ (Or.inl rfl) dX7_farOf_43
  rw [hH, hlc] at goal
  exact goal
abbrev rmX7_supports : Room := { frames := 2, cells := 0, slots := 0, locals := 57 }
theorem hd_X7_supports : yX7_supports.cls = RX7 ∧ yX7_supports.cls ≠ "java/lang/invoke/MethodHandle" ∧ yX7_supports.cls ≠ "java/lang/invoke/VarHandle" ∧ (parseMethodDescriptor yX7_supports.desc).map (fun d => d.parameters.length) = some 4 := by decide +kernel
set_option maxHeartbeats 4000000 in
set_option maxRecDepth 100000 in
theorem k_X7_supports (l : Launch) (D : va_G) (cA : ClassId) (o : Nat → Nat) (oM : St) (a1 : Int32) (a2 : Int32) (a3 : Int32) (a4 : Int32) (r : Int32) (hf : f_X7_supports oM a1 a2 a3 a4 = some (r)) : Mi l yX7_supports wsX7_supports rmX7_supports D cA z_0 [.ref (o 0), .int a1, .int a2, .int a3, .int a4] (wX7 o cA oM) r (wX7 o cA oM) := by
  refine Mi.of (cc := cX7_supports) (maxL := 8) (ret := (some .boolean)) (plainFor_of_name (by decide)) rfl (Nat.le_of_ble_eq_true rfl) (Or.inr rfl) ?_
  intro p e s m below meth c A Q hx hb hml hown hts hK hA hZ hret ls hl hw
  replace hown : s.vm.findClass RX7 = some m.cls := hown
  have hl : lv_has ls 8 [(0, .ref (o 0)), (1, .int a1), (2, .int a2), (3, .int a3), (4, .int a4)] := hl
  have hZo := z_0_ok
  have hi7 : ∀ w ∈ wsX70, w ∈ wsX7_supports := fun w h => List.mem_cons_of_mem _ (List.mem_append_right _ h)
  have q0 := hts (.fieldLink RX7 22 "ArcRingsModel" "bounds" "[I") (by decide +kernel)
  have q1 := hts (.constantLong RX7 210 2) (by decide +kernel)
  unfold f_X7_supports at hf
  obtain ⟨H, hH⟩ : ∃ H, H = s.heap := ⟨_, rfl⟩
  obtain ⟨locs, hlc⟩ : ∃ locs : List Loc, locs = [] := ⟨_, rfl⟩
  have hw : Wd D A s.heap H locs (wX7 o cA oM) := by rw [hH, hlc]; exact hw
  have goal : W p l e rmX7_supports s m ([.ref (o 0), .int a1, .int a2, .int a3, .int a4] : List Value).toArray below meth c H locs 0 0 Q (F0 m 0 ls []) := by
    clear hH hlc
    refine lv_aload_n hx hb dX7_supports_0 rfl (lv_at hl 0 rfl) ?_
    refine lv_iload_n hx hb dX7_supports_1 rfl (lv_at hl 1 rfl) ?_
    refine lv_iload_n hx hb dX7_supports_2 rfl (lv_at hl 2 rfl) ?_
    refine lv_iload hx hb dX7_supports_3 (lv_at hl 4 rfl) ?_
    obtain ⟨x1, g2, hf⟩ := bn1_e hf
    have fr := fr_X7_X7_oM o cA oM oM
    refine go_i (run_v (As := [.int a1, .int a2, .int a4]) (rest := []) ⟨hx, hb, hml, hown, hts⟩ (k_X7_farOf l D cA o oM a1 a2 a4 x1 g2 H.size) (cwV 3 hts gX7_supports_X7_farOf rfl rfl rfl hd_X7_farOf ⟨Nat.le_of_ble_eq_true rfl, Nat.le_of_ble_eq_true rfl⟩) fr hw hK hA hZo hZ (ci := 7) rfl rfl rfl rfl hl.1 rfl (Nat.le_of_ble_eq_true rfl) dX7_supports_5 ⟨Nat.zero_le _, Nat.zero_le _⟩) fr hw hA (fun H locs hw => ?_)
    refine lv_istore (lv' := [(5, .int x1), (0, .ref (o 0)), (1, .int a1), (2, .int a2), (3, .int a3), (4, .int a4)]) hx hb dX7_supports_8 hl (by decide) rfl (fun ls hl => ?_)
    refine lv_iconst (v := 2) hx hb dX7_supports_10 (by decide) ?_
    refine lv_iload_n hx hb dX7_supports_11 rfl (lv_at hl 4 rfl) ?_
    refine lv_imul hx hb dX7_supports_12 ?_
    refine lv_aload_n hx hb dX7_supports_13 rfl (lv_at hl 1 rfl) ?_
    refine w_get hx hb hts hi7 hown hK hw 0 rfl rfl 9 (by decide) q0 rfl (v := .ref (o 5)) rfl dX7_supports_14 ?_
    refine lv_iconst (v := 2) hx hb dX7_supports_17 (by decide) ?_
    obtain ⟨x3, g4, hf⟩ := bn1_e hf
    refine w_ald hx hb hK hw 5 rfl g4 dX7_supports_18 ?_
    refine lv_isub hx hb dX7_supports_19 ?_
    refine lv_istore (lv' := [(6, .int ((2 * a3) - x3)), (5, .int x1), (0, .ref (o 0)), (1, .int a1), (2, .int a2), (3, .int a3), (4, .int a4)]) hx hb dX7_supports_20 hl (by decide) rfl (fun ls hl => ?_)
    refine lv_iconst (v := 2) hx hb dX7_supports_22 (by decide) ?_
    refine lv_iload_n hx hb dX7_supports_23 rfl (lv_at hl 5 rfl) ?_
    refine lv_imul hx hb dX7_supports_24 ?_
    refine lv_iconst (v := 2) hx hb dX7_supports_25 (by decide) ?_
    refine lv_iadd hx hb dX7_supports_26 ?_
    refine lv_aload_n hx hb dX7_supports_27 rfl (lv_at hl 2 rfl) ?_
    refine w_get hx hb hts hi7 hown hK hw 0 rfl rfl 9 (by decide) q0 rfl (v := .ref (o 5)) rfl dX7_supports_28 ?_
    refine lv_iconst (v := 2) hx hb dX7_supports_31 (by decide) ?_
    obtain ⟨x5, g6, hf⟩ := bn1_e hf
    refine w_ald hx hb hK hw 5 rfl g6 dX7_supports_32 ?_
    refine lv_iadd hx hb dX7_supports_33 ?_
    refine lv_istore (lv' := [(7, .int (((2 * a3) + 2) + x5)), (6, .int ((2 * a3) - x3)), (5, .int x1), (0, .ref (o 0)), (1, .int a1), (2, .int a2), (3, .int a3), (4, .int a4)]) hx hb dX7_supports_34 hl (by decide) rfl (fun ls hl => ?_)
    refine lv_iload hx hb dX7_supports_36 (lv_at hl 1 rfl) ?_
    refine lv_if_le (tgt := 51) hx hb dX7_supports_38 (by decide) (fun c7 => ?_) (fun c7 => ?_)
    · have hf := if_t c7 hf
      refine lv_iload hx hb dX7_supports_51 (lv_at hl 2 rfl) ?_
      refine lv_iload hx hb dX7_supports_53 (lv_at hl 0 rfl) ?_
      refine lv_iload hx hb dX7_supports_55 (lv_at hl 0 rfl) ?_
      refine lv_imul hx hb dX7_supports_57 ?_
      refine lv_icmp_gt (tgt := 93) hx hb dX7_supports_58 (by decide) (fun c8 => ?_) (fun c8 => ?_)
      · have hf := if_t c8 hf
        refine lv_iconst (v := 0) hx hb dX7_supports_93 (by decide) ?_
        have e0_ := sm1 hf
        exact hret _ _ _ _ _ hw e0_ (Or.inr (Or.inl rfl)) dX7_supports_94
      · have hf := if_f c8 hf
        refine lv_aload_n hx hb dX7_supports_61 rfl (lv_at hl 3 rfl) ?_
        refine lv_ldc2 hx hb hown q1 dX7_supports_62 ?_
        refine lv_iload_n hx hb dX7_supports_65 rfl (lv_at hl 4 rfl) ?_
        refine lv_i2l (v := (a1 : Int32).toInt64) hx hb dX7_supports_66 rfl ?_
        refine lv_lmul hx hb dX7_supports_67 ?_
        refine lv_lconst (v := 1) hx hb dX7_supports_68 (by decide) ?_
        refine lv_ladd hx hb dX7_supports_69 ?_
        refine lv_ldc2 hx hb hown q1 dX7_supports_70 ?_
        refine lv_iload_n hx hb dX7_supports_73 rfl (lv_at hl 5 rfl) ?_
        refine lv_i2l (v := (a2 : Int32).toInt64) hx hb dX7_supports_74 rfl ?_
        refine lv_lmul hx hb dX7_supports_75 ?_
        refine lv_lconst (v := 1) hx hb dX7_supports_76 (by decide) ?_
        refine lv_ladd hx hb dX7_supports_77 ?_
        refine lv_ldc2 hx hb hown q1 dX7_supports_78 ?_
        refine lv_iload hx hb dX7_supports_81 (lv_at hl 7 rfl) ?_
        obtain ⟨x9, g10, hf⟩ := bn1_e hf
        have fr := fr_X7_X7_oM o cA oM oM
        refine go_i (run_v (As := [.long ((2 * ((a1 : Int32).toInt64)) + 1), .long ((2 * ((a2 : Int32).toInt64)) + 1), .long 2, .int a4]) (rest := []) ⟨hx, hb, hml, hown, hts⟩ (k_X7_agrees l D cA o oM ((2 * ((a1 : Int32).toInt64)) + 1) ((2 * ((a2 : Int32).toInt64)) + 1) 2 a4 x9 g10 H.size) (cwV 4 hts gX7_supports_X7_agrees rfl rfl rfl hd_X7_agrees ⟨Nat.le_of_ble_eq_true rfl, Nat.le_of_ble_eq_true rfl⟩) fr hw hK hA hZo hZ (ci := 7) rfl rfl rfl rfl hl.1 rfl (Nat.le_of_ble_eq_true rfl) dX7_supports_83 ⟨Nat.zero_le _, Nat.zero_le _⟩) fr hw hA (fun H locs hw => ?_)
        refine lv_if_eq (tgt := 93) hx hb dX7_supports_86 (by decide) (fun c11 => ?_) (fun c11 => ?_)
        · have hf := if_t c11 hf
          refine lv_iconst (v := 0) hx hb dX7_supports_93 (by decide) ?_
          have e0_ := sm1 hf
          exact hret _ _ _ _ _ hw e0_ (Or.inr (Or.inl rfl)) dX7_supports_94
        · have hf := if_f c11 hf
          refine lv_iconst (v := 1) hx hb dX7_supports_89 (by decide) ?_
          refine lv_goto (tgt := 94) hx hb dX7_supports_90 (by decide) ?_
          have e0_ := sm1 hf
          exact hret _ _ _ _ _ hw e0_ (Or.inr (Or.inr rfl)) dX7_supports_94
    · have hf := if_f c7 hf
      refine lv_iload hx hb dX7_supports_41 (lv_at hl 2 rfl) ?_
      refine lv_iload hx hb dX7_supports_43 (lv_at hl 1 rfl) ?_
      refine lv_iload hx hb dX7_supports_45 (lv_at hl 1 rfl) ?_
      refine lv_imul hx hb dX7_supports_47 ?_
      refine lv_icmp_lt (tgt := 93) hx hb dX7_supports_48 (by decide) (fun c12 => ?_) (fun c12 => ?_)
      · have hf := if_t c12 hf
        refine lv_iconst (v := 0) hx hb dX7_supports_93 (by decide) ?_
        have e0_ := sm1 hf
        exact hret _ _ _ _ _ hw e0_ (Or.inr (Or.inl rfl)) dX7_supports_94
      · have hf := if_f c12 hf
        refine lv_iload hx hb dX7_supports_51 (lv_at hl 2 rfl) ?_
        refine lv_iload hx hb dX7_supports_53 (lv_at hl 0 rfl) ?_
        refine lv_iload hx hb dX7_supports_55 (lv_at hl 0 rfl) ?_
        refine lv_imul hx hb dX7_supports_57 ?_
        refine lv_icmp_gt (tgt := 93) hx hb dX7_supports_58 (by decide) (fun c13 => ?_) (fun c13 => ?_)
        · have hf := if_t c13 hf
          refine lv_iconst (v := 0) hx hb dX7_supports_93 (by decide) ?_
          have e0_ := sm1 hf
          exact hret _ _ _ _ _ hw e0_ (Or.inr (Or.inl rfl)) dX7_supports_94
        · have hf := if_f c13 hf
          refine lv_aload_n hx hb dX7_supports_61 rfl (lv_at hl 3 rfl) ?_
          refine lv_ldc2 hx hb hown q1 dX7_supports_62 ?_
          refine lv_iload_n hx hb dX7_supports_65 rfl (lv_at hl 4 rfl) ?_
          refine lv_i2l (v := (a1 : Int32).toInt64) hx hb dX7_supports_66 rfl ?_
          refine lv_lmul hx hb dX7_supports_67 ?_
          refine lv_lconst (v := 1) hx hb dX7_supports_68 (by decide) ?_
          refine lv_ladd hx hb dX7_supports_69 ?_
          refine lv_ldc2 hx hb hown q1 dX7_supports_70 ?_
          refine lv_iload_n hx hb dX7_supports_73 rfl (lv_at hl 5 rfl) ?_
          refine lv_i2l (v := (a2 : Int32).toInt64) hx hb dX7_supports_74 rfl ?_
          refine lv_lmul hx hb dX7_supports_75 ?_
          refine lv_lconst (v := 1) hx hb dX7_supports_76 (by decide) ?_
          refine lv_ladd hx hb dX7_supports_77 ?_
          refine lv_ldc2 hx hb hown q1 dX7_supports_78 ?_
          refine lv_iload hx hb dX7_supports_81 (lv_at hl 7 rfl) ?_
          obtain ⟨x14, g15, hf⟩ := bn1_e hf
          have fr := fr_X7_X7_oM o cA oM oM
          refine go_i (run_v (As := [.long ((2 * ((a1 : Int32).toInt64)) + 1), .long ((2 * ((a2 : Int32).toInt64)) + 1), .long 2, .int a4]) (rest := []) ⟨hx, hb, hml, hown, hts⟩ (k_X7_agrees l D cA o oM ((2 * ((a1 : Int32).toInt64)) + 1) ((2 * ((a2 : Int32).toInt64)) + 1) 2 a4 x14 g15 H.size) (cwV 4 hts gX7_supports_X7_agrees rfl rfl rfl hd_X7_agrees ⟨Nat.le_of_ble_eq_true rfl, Nat.le_of_ble_eq_true rfl⟩) fr hw hK hA hZo hZ (ci := 7) rfl rfl rfl rfl hl.1 rfl (Nat.le_of_ble_eq_true rfl) dX7_supports_83 ⟨Nat.zero_le _, Nat.zero_le _⟩) fr hw hA (fun H locs hw => ?_)
          refine lv_if_eq (tgt := 93) hx hb dX7_supports_86 (by decide) (fun c16 => ?_) (fun c16 => ?_)
          · have hf := if_t c16 hf
            refine lv_iconst (v := 0) hx hb dX7_supports_93 (by decide) ?_
            have e0_ := sm1 hf
            exact hret _ _ _ _ _ hw e0_ (Or.inr (Or.inl rfl)) dX7_supports_94
          · have hf := if_f c16 hf
            refine lv_iconst (v := 1) hx hb dX7_supports_89 (by decide) ?_
            refine lv_goto (tgt := 94) hx hb dX7_supports_90 (by decide) ?_
            have e0_ := sm1 hf
            exact hret _ _ _ _ _ hw e0_ (Or.inr (Or.inr rfl)) dX7_supports_94
  rw [hH, hlc] at goal
  exact goal
abbrev rmX7_supporters : Room := { frames := 3, cells := 0, slots := 0, locals := 84 }
theorem hd_X7_supporters : yX7_supporters.cls = RX7 ∧ yX7_supporters.cls ≠ "java/lang/invoke/MethodHandle" ∧ yX7_supporters.cls ≠ "java/lang/invoke/VarHandle" ∧ (parseMethodDescriptor yX7_supporters.desc).map (fun d => d.parameters.length) = some 3 := by decide +kernel
set_option maxHeartbeats 4000000 in
set_option maxRecDepth 100000 in
theorem k_X7_supporters (l : Launch) (D : va_G) (cA : ClassId) (o : Nat → Nat) (oM : St) (a1 : Int32) (a2 : Int32) (a3 : Int32) (r : Int32) (hf : f_X7_supporters oM a1 a2 a3 = some (r)) : Mi l yX7_supporters wsX7_supporters rmX7_supporters D cA z_0 [.ref (o 0), .int a1, .int a2, .int a3] (wX7 o cA oM) r (wX7 o cA oM) := by
  refine Mi.of (cc := cX7_supporters) (maxL := 6) (ret := (some .int)) (plainFor_of_name (by decide)) rfl (Nat.le_of_ble_eq_true rfl) (Or.inl rfl) ?_
  intro p e s m below meth c A Q hx hb hml hown hts hK hA hZ hret ls hl hw
  replace hown : s.vm.findClass RX7 = some m.cls := hown
  have hl : lv_has ls 6 [(0, .ref (o 0)), (1, .int a1), (2, .int a2), (3, .int a3)] := hl
  have hZo := z_0_ok
  have hi7 : ∀ w ∈ wsX70, w ∈ wsX7_supporters := fun w h => List.mem_cons_of_mem _ (List.mem_append_right _ h)
  have q0 := hts (.fieldLink RX7 121 "ArcRingsModel" "dots" "I") (by decide +kernel)
  have h_L6 : ∀ (v1 : Int32) (v2 : Int32) (v3 : Int32), ∀ (n : Nat) (v4 : Int32) (v5 : Int32), f_X7_supporters_L6 oM v1 v2 v3 n v4 v5 = some (r) → ∀ (H : Heap) (locs : List Loc) (ls : Array Slot), Wd D A s.heap H locs (wX7 o cA oM) → lv_has ls 6 [(0, .ref (o 0)), (1, .int v1), (2, .int v2), (3, .int v3), (4, .int v4), (5, .int v5)] → W p l e rmX7_supporters s m ([.ref (o 0), .int a1, .int a2, .int a3] : List Value).toArray below meth c H locs 0 0 Q (F0 m 6 ls []) := by
    intro v1 v2 v3 n
    induction n with
    | zero =>
      intro v4 v5 hf
      have hf : none = some (r) := hf
      cases hf
    | succ n ih =>
      intro v4 v5 hf H locs ls hw hl
      have hf := (f_X7_supporters_L6_s oM v1 v2 v3 n v4 v5).symm.trans hf
      refine lv_iload hx hb dX7_supporters_6 (lv_at hl 5 rfl) ?_
      refine lv_aload_n hx hb dX7_supporters_8 rfl (lv_at hl 0 rfl) ?_
      refine w_get hx hb hts hi7 hown hK hw 0 rfl rfl 5 (by decide) q0 rfl (v := .int (oM.1 5)) rfl dX7_supporters_9 ?_
      refine lv_icmp_ge (tgt := 46) hx hb dX7_supporters_12 (by decide) (fun c1 => ?_) (fun c1 => ?_)
      · have hf := if_t c1 hf
        refine lv_iload hx hb dX7_supporters_46 (lv_at hl 4 rfl) ?_
        have e0_ := sm1 hf
        exact hret _ _ _ _ _ hw e0_ (Or.inl rfl) dX7_supporters_48
      · have hf := if_f c1 hf
        refine lv_iload hx hb dX7_supporters_15 (lv_at hl 4 rfl) ?_
        refine lv_aload_n hx hb dX7_supporters_17 rfl (lv_at hl 0 rfl) ?_
        refine lv_iload_n hx hb dX7_supporters_18 rfl (lv_at hl 1 rfl) ?_
        refine lv_iload_n hx hb dX7_supporters_19 rfl (lv_at hl 2 rfl) ?_
        refine lv_iload_n hx hb dX7_supporters_20 rfl (lv_at hl 3 rfl) ?_
        refine lv_iload hx hb dX7_supporters_21 (lv_at hl 5 rfl) ?_
        obtain ⟨x2, g3, hf⟩ := bn1_e hf
        have fr := fr_X7_X7_oM o cA oM oM
        refine go_i (run_v (As := [.int v1, .int v2, .int v3, .int v5]) (rest := [.int v4]) ⟨hx, hb, hml, hown, hts⟩ (k_X7_supports l D cA o oM v1 v2 v3 v5 x2 g3 H.size) (cwV 4 hts gX7_supporters_X7_supports rfl rfl rfl hd_X7_supports ⟨Nat.le_of_ble_eq_true rfl, Nat.le_of_ble_eq_true rfl⟩) fr hw hK hA hZo hZ (ci := 7) rfl rfl rfl rfl hl.1 rfl (Nat.le_of_ble_eq_true rfl) dX7_supporters_23 ⟨Nat.zero_le _, Nat.zero_le _⟩) fr hw hA (fun H locs hw => ?_)
        refine lv_if_eq (tgt := 36) hx hb dX7_supporters_26 (by decide) (fun c4 => ?_) (fun c4 => ?_)
        · have hf := if_t c4 hf
          refine lv_iconst (v := 0) hx hb dX7_supporters_36 (by decide) ?_
          refine lv_ior hx hb dX7_supporters_37 ?_
          refine lv_istore (lv' := [(4, .int (v4 ||| 0)), (0, .ref (o 0)), (1, .int v1), (2, .int v2), (3, .int v3), (5, .int v5)]) hx hb dX7_supporters_38 hl (by decide) rfl (fun ls hl => ?_)
          refine lv_iinc (v := v5 + 1) (lv' := [(5, .int (v5 + 1)), (4, .int (v4 ||| 0)), (0, .ref (o 0)), (1, .int v1), (2, .int v2), (3, .int v3)]) hx hb dX7_supporters_40 hl (k := 5) rfl (by rfl) (by decide) rfl (fun ls hl => ?_)
          refine lv_goto (tgt := 6) hx hb dX7_supporters_43 (by decide) ?_
          exact ih (v4 ||| 0) (v5 + 1) hf H locs ls hw (lv_sub hl [2, 3, 4, 5, 1, 0] rfl)
        · have hf := if_f c4 hf
          refine lv_iconst (v := 1) hx hb dX7_supporters_29 (by decide) ?_
          refine lv_iload hx hb dX7_supporters_30 (lv_at hl 5 rfl) ?_
          refine lv_ishl hx hb dX7_supporters_32 ?_
          refine lv_goto (tgt := 37) hx hb dX7_supporters_33 (by decide) ?_
          refine lv_ior hx hb dX7_supporters_37 ?_
          obtain ⟨y5, e6, hf⟩ := bn1_e hf
          refine w_nmi (sm1 e6) ?_
          refine lv_istore (lv' := [(4, .int y5), (0, .ref (o 0)), (1, .int v1), (2, .int v2), (3, .int v3), (5, .int v5)]) hx hb dX7_supporters_38 hl (by decide) rfl (fun ls hl => ?_)
          refine lv_iinc (v := v5 + 1) (lv' := [(5, .int (v5 + 1)), (4, .int y5), (0, .ref (o 0)), (1, .int v1), (2, .int v2), (3, .int v3)]) hx hb dX7_supporters_40 hl (k := 5) rfl (by rfl) (by decide) rfl (fun ls hl => ?_)
          refine lv_goto (tgt := 6) hx hb dX7_supporters_43 (by decide) ?_
          exact ih y5 (v5 + 1) hf H locs ls hw (lv_sub hl [2, 3, 4, 5, 1, 0] rfl)
  unfold f_X7_supporters at hf
  obtain ⟨H, hH⟩ : ∃ H, H = s.heap := ⟨_, rfl⟩
  obtain ⟨locs, hlc⟩ : ∃ locs : List Loc, locs = [] := ⟨_, rfl⟩
  have hw : Wd D A s.heap H locs (wX7 o cA oM) := by rw [hH, hlc]; exact hw
  have goal : W p l e rmX7_supporters s m ([.ref (o 0), .int a1, .int a2, .int a3] : List Value).toArray below meth c H locs 0 0 Q (F0 m 0 ls []) := by
    clear hH hlc
    refine lv_iconst (v := 0) hx hb dX7_supporters_0 (by decide) ?_
    refine lv_istore (lv' := [(4, .int 0), (0, .ref (o 0)), (1, .int a1), (2, .int a2), (3, .int a3)]) hx hb dX7_supporters_1 hl (by decide) rfl (fun ls hl => ?_)
    refine lv_iconst (v := 0) hx hb dX7_supporters_3 (by decide) ?_
    refine lv_istore (lv' := [(5, .int 0), (4, .int 0), (0, .ref (o 0)), (1, .int a1), (2, .int a2), (3, .int a3)]) hx hb dX7_supporters_4 hl (by decide) rfl (fun ls hl => ?_)
    exact h_L6 a1 a2 a3 _ 0 0 hf H locs ls hw (lv_sub hl [2, 3, 4, 5, 1, 0] rfl)
  rw [hH, hlc] at goal
  exact goal
abbrev rmX7_octantOf : Room := { frames := 1, cells := 0, slots := 0, locals := 20 }
theorem hd_X7_octantOf : yX7_octantOf.cls = RX7 ∧ yX7_octantOf.cls ≠ "java/lang/invoke/MethodHandle" ∧ yX7_octantOf.cls ≠ "java/lang/invoke/VarHandle" ∧ (parseMethodDescriptor yX7_octantOf.desc).map (fun d => d.parameters.length) = some 3 := by decide +kernel
set_option maxHeartbeats 4000000 in
set_option maxRecDepth 100000 in
theorem k_X7_octantOf (l : Launch) (D : va_G) (cA : ClassId) (o : Nat → Nat) (oM : St) (a1 : Int32) (a2 : Int32) (a3 : Int32) (r : Int32) (hf : f_X7_octantOf oM a1 a2 a3 = some (r)) : Mi l yX7_octantOf wsX7_octantOf rmX7_octantOf D cA z_0 [.ref (o 0), .int a1, .int a2, .int a3] (wX7 o cA oM) r (wX7 o cA oM) := by
  refine Mi.of (cc := cX7_octantOf) (maxL := 7) (ret := (some .int)) (plainFor_of_name (by decide)) rfl (Nat.le_of_ble_eq_true rfl) (Or.inl rfl) ?_
  intro p e s m below meth c A Q hx hb hml hown hts hK hA hZ hret ls hl hw
  replace hown : s.vm.findClass RX7 = some m.cls := hown
  have hl : lv_has ls 7 [(0, .ref (o 0)), (1, .int a1), (2, .int a2), (3, .int a3)] := hl
  have hZo := z_0_ok
  have hi7 : ∀ w ∈ wsX70, w ∈ wsX7_octantOf := fun w h => List.mem_cons_of_mem _ (List.mem_append_right _ h)
  have q0 := hts (.fieldLink RX7 13 "ArcRingsModel" "dotX" "[I") (by decide +kernel)
  have q1 := hts (.fieldLink RX7 16 "ArcRingsModel" "dotY" "[I") (by decide +kernel)
  unfold f_X7_octantOf at hf
  obtain ⟨H, hH⟩ : ∃ H, H = s.heap := ⟨_, rfl⟩
  obtain ⟨locs, hlc⟩ : ∃ locs : List Loc, locs = [] := ⟨_, rfl⟩
  have hw : Wd D A s.heap H locs (wX7 o cA oM) := by rw [hH, hlc]; exact hw
  have goal : W p l e rmX7_octantOf s m ([.ref (o 0), .int a1, .int a2, .int a3] : List Value).toArray below meth c H locs 0 0 Q (F0 m 0 ls []) := by
    clear hH hlc
    refine lv_iconst (v := 2) hx hb dX7_octantOf_0 (by decide) ?_
    refine lv_aload_n hx hb dX7_octantOf_1 rfl (lv_at hl 0 rfl) ?_
    refine w_get hx hb hts hi7 hown hK hw 0 rfl rfl 6 (by decide) q0 rfl (v := .ref (o 2)) rfl dX7_octantOf_2 ?_
    refine lv_iload_n hx hb dX7_octantOf_5 rfl (lv_at hl 3 rfl) ?_
    obtain ⟨x1, g2, hf⟩ := bn1_e hf
    refine w_ald hx hb hK hw 2 rfl g2 dX7_octantOf_6 ?_
    refine lv_imul hx hb dX7_octantOf_7 ?_
    refine lv_iconst (v := 2) hx hb dX7_octantOf_8 (by decide) ?_
    refine lv_iload_n hx hb dX7_octantOf_9 rfl (lv_at hl 1 rfl) ?_
    refine lv_imul hx hb dX7_octantOf_10 ?_
    refine lv_isub hx hb dX7_octantOf_11 ?_
    refine lv_iconst (v := 1) hx hb dX7_octantOf_12 (by decide) ?_
    refine lv_isub hx hb dX7_octantOf_13 ?_
    refine lv_istore (lv' := [(4, .int (((2 * x1) - (2 * a1)) - 1)), (0, .ref (o 0)), (1, .int a1), (2, .int a2), (3, .int a3)]) hx hb dX7_octantOf_14 hl (by decide) rfl (fun ls hl => ?_)
    refine lv_iconst (v := 2) hx hb dX7_octantOf_16 (by decide) ?_
    refine lv_aload_n hx hb dX7_octantOf_17 rfl (lv_at hl 1 rfl) ?_
    refine w_get hx hb hts hi7 hown hK hw 0 rfl rfl 7 (by decide) q1 rfl (v := .ref (o 3)) rfl dX7_octantOf_18 ?_
    refine lv_iload_n hx hb dX7_octantOf_21 rfl (lv_at hl 4 rfl) ?_
    obtain ⟨x3, g4, hf⟩ := bn1_e hf
    refine w_ald hx hb hK hw 3 rfl g4 dX7_octantOf_22 ?_
    refine lv_imul hx hb dX7_octantOf_23 ?_
    refine lv_iconst (v := 2) hx hb dX7_octantOf_24 (by decide) ?_
    refine lv_iload_n hx hb dX7_octantOf_25 rfl (lv_at hl 3 rfl) ?_
    refine lv_imul hx hb dX7_octantOf_26 ?_
    refine lv_isub hx hb dX7_octantOf_27 ?_
    refine lv_iconst (v := 1) hx hb dX7_octantOf_28 (by decide) ?_
    refine lv_isub hx hb dX7_octantOf_29 ?_
    refine lv_istore (lv' := [(5, .int (((2 * x3) - (2 * a2)) - 1)), (4, .int (((2 * x1) - (2 * a1)) - 1)), (0, .ref (o 0)), (1, .int a1), (2, .int a2), (3, .int a3)]) hx hb dX7_octantOf_30 hl (by decide) rfl (fun ls hl => ?_)
    refine lv_iload hx hb dX7_octantOf_32 (lv_at hl 0 rfl) ?_
    refine lv_if_le (tgt := 50) hx hb dX7_octantOf_34 (by decide) (fun c5 => ?_) (fun c5 => ?_)
    · have hf := if_t c5 hf
      refine lv_iload hx hb dX7_octantOf_50 (lv_at hl 1 rfl) ?_
      refine lv_if_ge (tgt := 59) hx hb dX7_octantOf_52 (by decide) (fun c6 => ?_) (fun c6 => ?_)
      · have hf := if_t c6 hf
        refine lv_bipush (v := 6) hx hb dX7_octantOf_59 (by decide) ?_
        refine lv_istore (lv' := [(6, .int 6), (5, .int (((2 * x3) - (2 * a2)) - 1)), (4, .int (((2 * x1) - (2 * a1)) - 1)), (0, .ref (o 0)), (1, .int a1), (2, .int a2), (3, .int a3)]) hx hb dX7_octantOf_61 hl (by decide) rfl (fun ls hl => ?_)
        refine lv_iload hx hb dX7_octantOf_63 (lv_at hl 0 rfl) ?_
        refine lv_iload hx hb dX7_octantOf_65 (lv_at hl 1 rfl) ?_
        obtain ⟨x7, g8, hf⟩ := bn1_e hf
        have fr := fr_X7_S o cA oM
        refine go_i (run_s (As := [.int (((2 * x3) - (2 * a2)) - 1)]) (rest := [.int 6]) ⟨hx, hb, hml, hown, hts⟩ (k_X7_abs l D cA (((2 * x3) - (2 * a2)) - 1) x7 g8 H.size) (va_cwS 1 hts gX7_octantOf_X7_abs rfl rfl rfl hd_X7_abs ⟨Nat.le_of_ble_eq_true rfl, Nat.le_of_ble_eq_true rfl⟩) fr hw hK hA rfl hl.1 rfl (Nat.le_of_ble_eq_true rfl) dX7_octantOf_67 ⟨Nat.zero_le _, Nat.zero_le _⟩) fr hw hA (fun H locs hw => ?_)
        refine lv_iload hx hb dX7_octantOf_70 (lv_at hl 2 rfl) ?_
        obtain ⟨x9, g10, hf⟩ := bn1_e hf
        have fr := fr_X7_S o cA oM
        refine go_i (run_s (As := [.int (((2 * x1) - (2 * a1)) - 1)]) (rest := [.int x7, .int 6]) ⟨hx, hb, hml, hown, hts⟩ (k_X7_abs l D cA (((2 * x1) - (2 * a1)) - 1) x9 g10 H.size) (va_cwS 1 hts gX7_octantOf_X7_abs rfl rfl rfl hd_X7_abs ⟨Nat.le_of_ble_eq_true rfl, Nat.le_of_ble_eq_true rfl⟩) fr hw hK hA rfl hl.1 rfl (Nat.le_of_ble_eq_true rfl) dX7_octantOf_72 ⟨Nat.zero_le _, Nat.zero_le _⟩) fr hw hA (fun H locs hw => ?_)
        refine lv_icmp_le (tgt := 82) hx hb dX7_octantOf_75 (by decide) (fun c11 => ?_) (fun c11 => ?_)
        · have hf := if_t c11 hf
          refine lv_iconst (v := 0) hx hb dX7_octantOf_82 (by decide) ?_
          refine lv_iadd hx hb dX7_octantOf_83 ?_
          have e0_ := sm1 hf
          exact hret _ _ _ _ _ hw e0_ (Or.inl rfl) dX7_octantOf_84
        · have hf := if_f c11 hf
          refine lv_iconst (v := 1) hx hb dX7_octantOf_78 (by decide) ?_
          refine lv_goto (tgt := 83) hx hb dX7_octantOf_79 (by decide) ?_
          refine lv_iadd hx hb dX7_octantOf_83 ?_
          have e0_ := sm1 hf
          exact hret _ _ _ _ _ hw e0_ (Or.inl rfl) dX7_octantOf_84
      · have hf := if_f c6 hf
        refine lv_iconst (v := 4) hx hb dX7_octantOf_55 (by decide) ?_
        refine lv_goto (tgt := 61) hx hb dX7_octantOf_56 (by decide) ?_
        refine lv_istore (lv' := [(6, .int 4), (5, .int (((2 * x3) - (2 * a2)) - 1)), (4, .int (((2 * x1) - (2 * a1)) - 1)), (0, .ref (o 0)), (1, .int a1), (2, .int a2), (3, .int a3)]) hx hb dX7_octantOf_61 hl (by decide) rfl (fun ls hl => ?_)
        refine lv_iload hx hb dX7_octantOf_63 (lv_at hl 0 rfl) ?_
        refine lv_iload hx hb dX7_octantOf_65 (lv_at hl 1 rfl) ?_
        obtain ⟨x12, g13, hf⟩ := bn1_e hf
        have fr := fr_X7_S o cA oM
        refine go_i (run_s (As := [.int (((2 * x3) - (2 * a2)) - 1)]) (rest := [.int 4]) ⟨hx, hb, hml, hown, hts⟩ (k_X7_abs l D cA (((2 * x3) - (2 * a2)) - 1) x12 g13 H.size) (va_cwS 1 hts gX7_octantOf_X7_abs rfl rfl rfl hd_X7_abs ⟨Nat.le_of_ble_eq_true rfl, Nat.le_of_ble_eq_true rfl⟩) fr hw hK hA rfl hl.1 rfl (Nat.le_of_ble_eq_true rfl) dX7_octantOf_67 ⟨Nat.zero_le _, Nat.zero_le _⟩) fr hw hA (fun H locs hw => ?_)
        refine lv_iload hx hb dX7_octantOf_70 (lv_at hl 2 rfl) ?_
        obtain ⟨x14, g15, hf⟩ := bn1_e hf
        have fr := fr_X7_S o cA oM
        refine go_i (run_s (As := [.int (((2 * x1) - (2 * a1)) - 1)]) (rest := [.int x12, .int 4]) ⟨hx, hb, hml, hown, hts⟩ (k_X7_abs l D cA (((2 * x1) - (2 * a1)) - 1) x14 g15 H.size) (va_cwS 1 hts gX7_octantOf_X7_abs rfl rfl rfl hd_X7_abs ⟨Nat.le_of_ble_eq_true rfl, Nat.le_of_ble_eq_true rfl⟩) fr hw hK hA rfl hl.1 rfl (Nat.le_of_ble_eq_true rfl) dX7_octantOf_72 ⟨Nat.zero_le _, Nat.zero_le _⟩) fr hw hA (fun H locs hw => ?_)
        refine lv_icmp_le (tgt := 82) hx hb dX7_octantOf_75 (by decide) (fun c16 => ?_) (fun c16 => ?_)
        · have hf := if_t c16 hf
          refine lv_iconst (v := 0) hx hb dX7_octantOf_82 (by decide) ?_
          refine lv_iadd hx hb dX7_octantOf_83 ?_
          have e0_ := sm1 hf
          exact hret _ _ _ _ _ hw e0_ (Or.inl rfl) dX7_octantOf_84
        · have hf := if_f c16 hf
          refine lv_iconst (v := 1) hx hb dX7_octantOf_78 (by decide) ?_
          refine lv_goto (tgt := 83) hx hb dX7_octantOf_79 (by decide) ?_
          refine lv_iadd hx hb dX7_octantOf_83 ?_
          have e0_ := sm1 hf
          exact hret _ _ _ _ _ hw e0_ (Or.inl rfl) dX7_octantOf_84
    · have hf := if_f c5 hf
      refine lv_iload hx hb dX7_octantOf_37 (lv_at hl 1 rfl) ?_
      refine lv_if_le (tgt := 46) hx hb dX7_octantOf_39 (by decide) (fun c17 => ?_) (fun c17 => ?_)
      · have hf := if_t c17 hf
        refine lv_iconst (v := 2) hx hb dX7_octantOf_46 (by decide) ?_
        refine lv_goto (tgt := 61) hx hb dX7_octantOf_47 (by decide) ?_
        refine lv_istore (lv' := [(6, .int 2), (5, .int (((2 * x3) - (2 * a2)) - 1)), (4, .int (((2 * x1) - (2 * a1)) - 1)), (0, .ref (o 0)), (1, .int a1), (2, .int a2), (3, .int a3)]) hx hb dX7_octantOf_61 hl (by decide) rfl (fun ls hl => ?_)
        refine lv_iload hx hb dX7_octantOf_63 (lv_at hl 0 rfl) ?_
        refine lv_iload hx hb dX7_octantOf_65 (lv_at hl 1 rfl) ?_
        obtain ⟨x18, g19, hf⟩ := bn1_e hf
        have fr := fr_X7_S o cA oM
        refine go_i (run_s (As := [.int (((2 * x3) - (2 * a2)) - 1)]) (rest := [.int 2]) ⟨hx, hb, hml, hown, hts⟩ (k_X7_abs l D cA (((2 * x3) - (2 * a2)) - 1) x18 g19 H.size) (va_cwS 1 hts gX7_octantOf_X7_abs rfl rfl rfl hd_X7_abs ⟨Nat.le_of_ble_eq_true rfl, Nat.le_of_ble_eq_true rfl⟩) fr hw hK hA rfl hl.1 rfl (Nat.le_of_ble_eq_true rfl) dX7_octantOf_67 ⟨Nat.zero_le _, Nat.zero_le _⟩) fr hw hA (fun H locs hw => ?_)
        refine lv_iload hx hb dX7_octantOf_70 (lv_at hl 2 rfl) ?_
        obtain ⟨x20, g21, hf⟩ := bn1_e hf
        have fr := fr_X7_S o cA oM
        refine go_i (run_s (As := [.int (((2 * x1) - (2 * a1)) - 1)]) (rest := [.int x18, .int 2]) ⟨hx, hb, hml, hown, hts⟩ (k_X7_abs l D cA (((2 * x1) - (2 * a1)) - 1) x20 g21 H.size) (va_cwS 1 hts gX7_octantOf_X7_abs rfl rfl rfl hd_X7_abs ⟨Nat.le_of_ble_eq_true rfl, Nat.le_of_ble_eq_true rfl⟩) fr hw hK hA rfl hl.1 rfl (Nat.le_of_ble_eq_true rfl) dX7_octantOf_72 ⟨Nat.zero_le _, Nat.zero_le _⟩) fr hw hA (fun H locs hw => ?_)
        refine lv_icmp_le (tgt := 82) hx hb dX7_octantOf_75 (by decide) (fun c22 => ?_) (fun c22 => ?_)
        · have hf := if_t c22 hf
          refine lv_iconst (v := 0) hx hb dX7_octantOf_82 (by decide) ?_
          refine lv_iadd hx hb dX7_octantOf_83 ?_
          have e0_ := sm1 hf
          exact hret _ _ _ _ _ hw e0_ (Or.inl rfl) dX7_octantOf_84
        · have hf := if_f c22 hf
          refine lv_iconst (v := 1) hx hb dX7_octantOf_78 (by decide) ?_
          refine lv_goto (tgt := 83) hx hb dX7_octantOf_79 (by decide) ?_
          refine lv_iadd hx hb dX7_octantOf_83 ?_
          have e0_ := sm1 hf
          exact hret _ _ _ _ _ hw e0_ (Or.inl rfl) dX7_octantOf_84
      · have hf := if_f c17 hf
        refine lv_iconst (v := 0) hx hb dX7_octantOf_42 (by decide) ?_
        refine lv_goto (tgt := 61) hx hb dX7_octantOf_43 (by decide) ?_
        refine lv_istore (lv' := [(6, .int 0), (5, .int (((2 * x3) - (2 * a2)) - 1)), (4, .int (((2 * x1) - (2 * a1)) - 1)), (0, .ref (o 0)), (1, .int a1), (2, .int a2), (3, .int a3)]) hx hb dX7_octantOf_61 hl (by decide) rfl (fun ls hl => ?_)
        refine lv_iload hx hb dX7_octantOf_63 (lv_at hl 0 rfl) ?_
        refine lv_iload hx hb dX7_octantOf_65 (lv_at hl 1 rfl) ?_
        obtain ⟨x23, g24, hf⟩ := bn1_e hf
        have fr := fr_X7_S o cA oM
        refine go_i (run_s (As := [.int (((2 * x3) - (2 * a2)) - 1)]) (rest := [.int 0]) ⟨hx, hb, hml, hown, hts⟩ (k_X7_abs l D cA (((2 * x3) - (2 * a2)) - 1) x23 g24 H.size) (va_cwS 1 hts gX7_octantOf_X7_abs rfl rfl rfl hd_X7_abs ⟨Nat.le_of_ble_eq_true rfl, Nat.le_of_ble_eq_true rfl⟩) fr hw hK hA rfl hl.1 rfl (Nat.le_of_ble_eq_true rfl) dX7_octantOf_67 ⟨Nat.zero_le _, Nat.zero_le _⟩) fr hw hA (fun H locs hw => ?_)
        refine lv_iload hx hb dX7_octantOf_70 (lv_at hl 2 rfl) ?_
        obtain ⟨x25, g26, hf⟩ := bn1_e hf
        have fr := fr_X7_S o cA oM
        refine go_i (run_s (As := [.int (((2 * x1) - (2 * a1)) - 1)]) (rest := [.int x23, .int 0]) ⟨hx, hb, hml, hown, hts⟩ (k_X7_abs l D cA (((2 * x1) - (2 * a1)) - 1) x25 g26 H.size) (va_cwS 1 hts gX7_octantOf_X7_abs rfl rfl rfl hd_X7_abs ⟨Nat.le_of_ble_eq_true rfl, Nat.le_of_ble_eq_true rfl⟩) fr hw hK hA rfl hl.1 rfl (Nat.le_of_ble_eq_true rfl) dX7_octantOf_72 ⟨Nat.zero_le _, Nat.zero_le _⟩) fr hw hA (fun H locs hw => ?_)
        refine lv_icmp_le (tgt := 82) hx hb dX7_octantOf_75 (by decide) (fun c27 => ?_) (fun c27 => ?_)
        · have hf := if_t c27 hf
          refine lv_iconst (v := 0) hx hb dX7_octantOf_82 (by decide) ?_
          refine lv_iadd hx hb dX7_octantOf_83 ?_
          have e0_ := sm1 hf
          exact hret _ _ _ _ _ hw e0_ (Or.inl rfl) dX7_octantOf_84
        · have hf := if_f c27 hf
          refine lv_iconst (v := 1) hx hb dX7_octantOf_78 (by decide) ?_
          refine lv_goto (tgt := 83) hx hb dX7_octantOf_79 (by decide) ?_
          refine lv_iadd hx hb dX7_octantOf_83 ?_
          have e0_ := sm1 hf
          exact hret _ _ _ _ _ hw e0_ (Or.inl rfl) dX7_octantOf_84
  rw [hH, hlc] at goal
  exact goal
abbrev rmX7_spanOf : Room := { frames := 2, cells := 0, slots := 0, locals := 46 }
theorem hd_X7_spanOf : yX7_spanOf.cls = RX7 ∧ yX7_spanOf.cls ≠ "java/lang/invoke/MethodHandle" ∧ yX7_spanOf.cls ≠ "java/lang/invoke/VarHandle" ∧ (parseMethodDescriptor yX7_spanOf.desc).map (fun d => d.parameters.length) = some 3 := by decide +kernel
set_option maxHeartbeats 4000000 in
set_option maxRecDepth 100000 in
theorem k_X7_spanOf (l : Launch) (D : va_G) (cA : ClassId) (o : Nat → Nat) (oM : St) (a1 : Int32) (a2 : Int32) (a3 : Int32) (r : Int32) (hf : f_X7_spanOf oM a1 a2 a3 = some (r)) : Mi l yX7_spanOf wsX7_spanOf rmX7_spanOf D cA z_0 [.ref (o 0), .int a1, .int a2, .int a3] (wX7 o cA oM) r (wX7 o cA oM) := by
  refine Mi.of (cc := cX7_spanOf) (maxL := 6) (ret := (some .int)) (plainFor_of_name (by decide)) rfl (Nat.le_of_ble_eq_true rfl) (Or.inl rfl) ?_
  intro p e s m below meth c A Q hx hb hml hown hts hK hA hZ hret ls hl hw
  replace hown : s.vm.findClass RX7 = some m.cls := hown
  have hl : lv_has ls 6 [(0, .ref (o 0)), (1, .int a1), (2, .int a2), (3, .int a3)] := hl
  have hZo := z_0_ok
  have hi7 : ∀ w ∈ wsX70, w ∈ wsX7_spanOf := fun w h => List.mem_cons_of_mem _ (List.mem_append_right _ h)
  have q0 := hts (.fieldLink RX7 121 "ArcRingsModel" "dots" "I") (by decide +kernel)
  have h_L6 : ∀ (v1 : Int32) (v2 : Int32) (v3 : Int32), ∀ (n : Nat) (v4 : Int32) (v5 : Int32), f_X7_spanOf_L6 oM v1 v2 v3 n v4 v5 = some (r) → ∀ (H : Heap) (locs : List Loc) (ls : Array Slot), Wd D A s.heap H locs (wX7 o cA oM) → lv_has ls 6 [(0, .ref (o 0)), (1, .int v1), (2, .int v2), (3, .int v3), (4, .int v4), (5, .int v5)] → W p l e rmX7_spanOf s m ([.ref (o 0), .int a1, .int a2, .int a3] : List Value).toArray below meth c H locs 0 0 Q (F0 m 6 ls []) := by
    intro v1 v2 v3 n
    induction n with
    | zero =>
      intro v4 v5 hf
      have hf : none = some (r) := hf
      cases hf
    | succ n ih =>
      intro v4 v5 hf H locs ls hw hl
      have hf := (f_X7_spanOf_L6_s oM v1 v2 v3 n v4 v5).symm.trans hf
      refine lv_iload hx hb dX7_spanOf_6 (lv_at hl 5 rfl) ?_
      refine lv_aload_n hx hb dX7_spanOf_8 rfl (lv_at hl 0 rfl) ?_
      refine w_get hx hb hts hi7 hown hK hw 0 rfl rfl 5 (by decide) q0 rfl (v := .int (oM.1 5)) rfl dX7_spanOf_9 ?_
      refine lv_icmp_ge (tgt := 50) hx hb dX7_spanOf_12 (by decide) (fun c1 => ?_) (fun c1 => ?_)
      · have hf := if_t c1 hf
        refine lv_iload hx hb dX7_spanOf_50 (lv_at hl 4 rfl) ?_
        obtain ⟨x2, g3, hf⟩ := bn1_e hf
        have fr := fr_X7_S o cA oM
        refine go_i (run_s (As := [.int v4]) (rest := []) ⟨hx, hb, hml, hown, hts⟩ (k_X7_size l D cA v4 x2 g3 H.size) (va_cwS 1 hts gX7_spanOf_X7_size rfl rfl rfl hd_X7_size ⟨Nat.le_of_ble_eq_true rfl, Nat.le_of_ble_eq_true rfl⟩) fr hw hK hA rfl hl.1 rfl (Nat.le_of_ble_eq_true rfl) dX7_spanOf_52 ⟨Nat.zero_le _, Nat.zero_le _⟩) fr hw hA (fun H locs hw => ?_)
        have e0_ := sm1 hf
        exact hret _ _ _ _ _ hw e0_ (Or.inl rfl) dX7_spanOf_55
      · have hf := if_f c1 hf
        refine lv_iload hx hb dX7_spanOf_15 (lv_at hl 4 rfl) ?_
        refine lv_iload_n hx hb dX7_spanOf_17 rfl (lv_at hl 3 rfl) ?_
        refine lv_iload hx hb dX7_spanOf_18 (lv_at hl 5 rfl) ?_
        refine lv_ishr hx hb dX7_spanOf_20 ?_
        refine lv_iconst (v := 1) hx hb dX7_spanOf_21 (by decide) ?_
        refine lv_iand hx hb dX7_spanOf_22 ?_
        refine lv_iconst (v := 1) hx hb dX7_spanOf_23 (by decide) ?_
        refine lv_icmp_ne (tgt := 40) hx hb dX7_spanOf_24 (by decide) (fun c4 => ?_) (fun c4 => ?_)
        · have hf := if_f c4 hf
          refine lv_iconst (v := 0) hx hb dX7_spanOf_40 (by decide) ?_
          refine lv_ior hx hb dX7_spanOf_41 ?_
          refine lv_istore (lv' := [(4, .int (v4 ||| 0)), (0, .ref (o 0)), (1, .int v1), (2, .int v2), (3, .int v3), (5, .int v5)]) hx hb dX7_spanOf_42 hl (by decide) rfl (fun ls hl => ?_)
          refine lv_iinc (v := v5 + 1) (lv' := [(5, .int (v5 + 1)), (4, .int (v4 ||| 0)), (0, .ref (o 0)), (1, .int v1), (2, .int v2), (3, .int v3)]) hx hb dX7_spanOf_44 hl (k := 5) rfl (by rfl) (by decide) rfl (fun ls hl => ?_)
          refine lv_goto (tgt := 6) hx hb dX7_spanOf_47 (by decide) ?_
          exact ih (v4 ||| 0) (v5 + 1) hf H locs ls hw (lv_sub hl [2, 3, 4, 5, 1, 0] rfl)
        · have hf := if_t c4 hf
          refine lv_iconst (v := 1) hx hb dX7_spanOf_27 (by decide) ?_
          refine lv_aload_n hx hb dX7_spanOf_28 rfl (lv_at hl 0 rfl) ?_
          refine lv_iload_n hx hb dX7_spanOf_29 rfl (lv_at hl 1 rfl) ?_
          refine lv_iload_n hx hb dX7_spanOf_30 rfl (lv_at hl 2 rfl) ?_
          refine lv_iload hx hb dX7_spanOf_31 (lv_at hl 5 rfl) ?_
          obtain ⟨x5, g6, hf⟩ := bn1_e hf
          have fr := fr_X7_X7_oM o cA oM oM
          refine go_i (run_v (As := [.int v1, .int v2, .int v5]) (rest := [.int 1, .int v4]) ⟨hx, hb, hml, hown, hts⟩ (k_X7_octantOf l D cA o oM v1 v2 v5 x5 g6 H.size) (cwV 3 hts gX7_spanOf_X7_octantOf rfl rfl rfl hd_X7_octantOf ⟨Nat.le_of_ble_eq_true rfl, Nat.le_of_ble_eq_true rfl⟩) fr hw hK hA hZo hZ (ci := 7) rfl rfl rfl rfl hl.1 rfl (Nat.le_of_ble_eq_true rfl) dX7_spanOf_33 ⟨Nat.zero_le _, Nat.zero_le _⟩) fr hw hA (fun H locs hw => ?_)
          refine lv_ishl hx hb dX7_spanOf_36 ?_
          refine lv_goto (tgt := 41) hx hb dX7_spanOf_37 (by decide) ?_
          refine lv_ior hx hb dX7_spanOf_41 ?_
          obtain ⟨y7, e8, hf⟩ := bn1_e hf
          refine w_nmi (sm1 e8) ?_
          refine lv_istore (lv' := [(4, .int y7), (0, .ref (o 0)), (1, .int v1), (2, .int v2), (3, .int v3), (5, .int v5)]) hx hb dX7_spanOf_42 hl (by decide) rfl (fun ls hl => ?_)
          refine lv_iinc (v := v5 + 1) (lv' := [(5, .int (v5 + 1)), (4, .int y7), (0, .ref (o 0)), (1, .int v1), (2, .int v2), (3, .int v3)]) hx hb dX7_spanOf_44 hl (k := 5) rfl (by rfl) (by decide) rfl (fun ls hl => ?_)
          refine lv_goto (tgt := 6) hx hb dX7_spanOf_47 (by decide) ?_
          exact ih y7 (v5 + 1) hf H locs ls hw (lv_sub hl [2, 3, 4, 5, 1, 0] rfl)
  unfold f_X7_spanOf at hf
  obtain ⟨H, hH⟩ : ∃ H, H = s.heap := ⟨_, rfl⟩
  obtain ⟨locs, hlc⟩ : ∃ locs : List Loc, locs = [] := ⟨_, rfl⟩
  have hw : Wd D A s.heap H locs (wX7 o cA oM) := by rw [hH, hlc]; exact hw
  have goal : W p l e rmX7_spanOf s m ([.ref (o 0), .int a1, .int a2, .int a3] : List Value).toArray below meth c H locs 0 0 Q (F0 m 0 ls []) := by
    clear hH hlc
    refine lv_iconst (v := 0) hx hb dX7_spanOf_0 (by decide) ?_
    refine lv_istore (lv' := [(4, .int 0), (0, .ref (o 0)), (1, .int a1), (2, .int a2), (3, .int a3)]) hx hb dX7_spanOf_1 hl (by decide) rfl (fun ls hl => ?_)
    refine lv_iconst (v := 0) hx hb dX7_spanOf_3 (by decide) ?_
    refine lv_istore (lv' := [(5, .int 0), (4, .int 0), (0, .ref (o 0)), (1, .int a1), (2, .int a2), (3, .int a3)]) hx hb dX7_spanOf_4 hl (by decide) rfl (fun ls hl => ?_)
    exact h_L6 a1 a2 a3 _ 0 0 hf H locs ls hw (lv_sub hl [2, 3, 4, 5, 1, 0] rfl)
  rw [hH, hlc] at goal
  exact goal
abbrev rmX7_spotNow : Room := { frames := 4, cells := 0, slots := 0, locals := 109 }
theorem hd_X7_spotNow : yX7_spotNow.cls = RX7 ∧ yX7_spotNow.cls ≠ "java/lang/invoke/MethodHandle" ∧ yX7_spotNow.cls ≠ "java/lang/invoke/VarHandle" ∧ (parseMethodDescriptor yX7_spotNow.desc).map (fun d => d.parameters.length) = some 2 := by decide +kernel
set_option maxHeartbeats 4000000 in
set_option maxRecDepth 100000 in
theorem k_X7_spotNow (l : Launch) (D : va_G) (cA : ClassId) (o : Nat → Nat) (oM : St) (a1 : Int32) (a2 : Int32) (r : Int32) (hf : f_X7_spotNow oM a1 a2 = some (r)) : Mi l yX7_spotNow wsX7_spotNow rmX7_spotNow D cA z_0 [.ref (o 0), .int a1, .int a2] (wX7 o cA oM) r (wX7 o cA oM) := by
  refine Mi.of (cc := cX7_spotNow) (maxL := 4) (ret := (some .int)) (plainFor_of_name (by decide)) rfl (Nat.le_of_ble_eq_true rfl) (Or.inl rfl) ?_
  intro p e s m below meth c A Q hx hb hml hown hts hK hA hZ hret ls hl hw
  replace hown : s.vm.findClass RX7 = some m.cls := hown
  have hl : lv_has ls 4 [(0, .ref (o 0)), (1, .int a1), (2, .int a2)] := hl
  have hZo := z_0_ok
  have hi7 : ∀ w ∈ wsX70, w ∈ wsX7_spotNow := fun w h => List.mem_cons_of_mem _ (List.mem_append_right _ h)
  have q0 := hts (.fieldLink RX7 46 "ArcRingsModel" "spotX" "[I") (by decide +kernel)
  have q1 := hts (.fieldLink RX7 49 "ArcRingsModel" "spotY" "[I") (by decide +kernel)
  have q2 := hts (.fieldLink RX7 52 "ArcRingsModel" "spotR" "[I") (by decide +kernel)
  have q3 := hts (.fieldLink RX7 55 "ArcRingsModel" "spotVotes" "[I") (by decide +kernel)
  unfold f_X7_spotNow at hf
  obtain ⟨H, hH⟩ : ∃ H, H = s.heap := ⟨_, rfl⟩
  obtain ⟨locs, hlc⟩ : ∃ locs : List Loc, locs = [] := ⟨_, rfl⟩
  have hw : Wd D A s.heap H locs (wX7 o cA oM) := by rw [hH, hlc]; exact hw
  have goal : W p l e rmX7_spotNow s m ([.ref (o 0), .int a1, .int a2] : List Value).toArray below meth c H locs 0 0 Q (F0 m 0 ls []) := by
    clear hH hlc
    refine lv_aload_n hx hb dX7_spotNow_0 rfl (lv_at hl 0 rfl) ?_
    refine lv_aload_n hx hb dX7_spotNow_1 rfl (lv_at hl 0 rfl) ?_
    refine w_get hx hb hts hi7 hown hK hw 0 rfl rfl 39 (by decide) q0 rfl (v := .ref (o 13)) rfl dX7_spotNow_2 ?_
    refine lv_iload_n hx hb dX7_spotNow_5 rfl (lv_at hl 1 rfl) ?_
    obtain ⟨x1, g2, hf⟩ := bn1_e hf
    refine w_ald hx hb hK hw 13 rfl g2 dX7_spotNow_6 ?_
    refine lv_aload_n hx hb dX7_spotNow_7 rfl (lv_at hl 0 rfl) ?_
    refine w_get hx hb hts hi7 hown hK hw 0 rfl rfl 40 (by decide) q1 rfl (v := .ref (o 14)) rfl dX7_spotNow_8 ?_
    refine lv_iload_n hx hb dX7_spotNow_11 rfl (lv_at hl 1 rfl) ?_
    obtain ⟨x3, g4, hf⟩ := bn1_e hf
    refine w_ald hx hb hK hw 14 rfl g4 dX7_spotNow_12 ?_
    refine lv_aload_n hx hb dX7_spotNow_13 rfl (lv_at hl 0 rfl) ?_
    refine w_get hx hb hts hi7 hown hK hw 0 rfl rfl 41 (by decide) q2 rfl (v := .ref (o 15)) rfl dX7_spotNow_14 ?_
    refine lv_iload_n hx hb dX7_spotNow_17 rfl (lv_at hl 1 rfl) ?_
    obtain ⟨x5, g6, hf⟩ := bn1_e hf
    refine w_ald hx hb hK hw 15 rfl g6 dX7_spotNow_18 ?_
    obtain ⟨x7, g8, hf⟩ := bn1_e hf
    have fr := fr_X7_X7_oM o cA oM oM
    refine go_i (run_v (As := [.int x1, .int x3, .int x5]) (rest := []) ⟨hx, hb, hml, hown, hts⟩ (k_X7_supporters l D cA o oM x1 x3 x5 x7 g8 H.size) (cwV 3 hts gX7_spotNow_X7_supporters rfl rfl rfl hd_X7_supporters ⟨Nat.le_of_ble_eq_true rfl, Nat.le_of_ble_eq_true rfl⟩) fr hw hK hA hZo hZ (ci := 7) rfl rfl rfl rfl hl.1 rfl (Nat.le_of_ble_eq_true rfl) dX7_spotNow_19 ⟨Nat.zero_le _, Nat.zero_le _⟩) fr hw hA (fun H locs hw => ?_)
    refine lv_istore_n (lv' := [(3, .int x7), (0, .ref (o 0)), (1, .int a1), (2, .int a2)]) hx hb dX7_spotNow_22 rfl hl (by decide) rfl (fun ls hl => ?_)
    refine lv_iload_n hx hb dX7_spotNow_23 rfl (lv_at hl 3 rfl) ?_
    by_cases c9 : a2 = 0
    · have hf := if_t c9 hf
      refine lv_tableIn (tgt := 64) hx hb dX7_spotNow_24 (by rw [c9]; decide) (by rw [c9]; decide) (by rw [c9]; rfl) (by decide) ?_
      refine lv_aload_n hx hb dX7_spotNow_64 rfl (lv_at hl 1 rfl) ?_
      refine w_get hx hb hts hi7 hown hK hw 0 rfl rfl 39 (by decide) q0 rfl (v := .ref (o 13)) rfl dX7_spotNow_65 ?_
      refine lv_iload_n hx hb dX7_spotNow_68 rfl (lv_at hl 2 rfl) ?_
      obtain ⟨x10, g11, hf⟩ := bn1_e hf
      refine w_ald hx hb hK hw 13 rfl g11 dX7_spotNow_69 ?_
      have e0_ := sm1 hf
      exact hret _ _ _ _ _ hw e0_ (Or.inl rfl) dX7_spotNow_70
    have hf := if_f c9 hf
    by_cases c12 : a2 = 1
    · have hf := if_t c12 hf
      refine lv_tableIn (tgt := 71) hx hb dX7_spotNow_24 (by rw [c12]; decide) (by rw [c12]; decide) (by rw [c12]; rfl) (by decide) ?_
      refine lv_aload_n hx hb dX7_spotNow_71 rfl (lv_at hl 1 rfl) ?_
      refine w_get hx hb hts hi7 hown hK hw 0 rfl rfl 40 (by decide) q1 rfl (v := .ref (o 14)) rfl dX7_spotNow_72 ?_
      refine lv_iload_n hx hb dX7_spotNow_75 rfl (lv_at hl 2 rfl) ?_
      obtain ⟨x13, g14, hf⟩ := bn1_e hf
      refine w_ald hx hb hK hw 14 rfl g14 dX7_spotNow_76 ?_
      have e0_ := sm1 hf
      exact hret _ _ _ _ _ hw e0_ (Or.inl rfl) dX7_spotNow_77
    have hf := if_f c12 hf
    by_cases c15 : a2 = 2
    · have hf := if_t c15 hf
      refine lv_tableIn (tgt := 78) hx hb dX7_spotNow_24 (by rw [c15]; decide) (by rw [c15]; decide) (by rw [c15]; rfl) (by decide) ?_
      refine lv_aload_n hx hb dX7_spotNow_78 rfl (lv_at hl 1 rfl) ?_
      refine w_get hx hb hts hi7 hown hK hw 0 rfl rfl 41 (by decide) q2 rfl (v := .ref (o 15)) rfl dX7_spotNow_79 ?_
      refine lv_iload_n hx hb dX7_spotNow_82 rfl (lv_at hl 2 rfl) ?_
      obtain ⟨x16, g17, hf⟩ := bn1_e hf
      refine w_ald hx hb hK hw 15 rfl g17 dX7_spotNow_83 ?_
      have e0_ := sm1 hf
      exact hret _ _ _ _ _ hw e0_ (Or.inl rfl) dX7_spotNow_84
    have hf := if_f c15 hf
    by_cases c18 : a2 = 3
    · have hf := if_t c18 hf
      refine lv_tableIn (tgt := 85) hx hb dX7_spotNow_24 (by rw [c18]; decide) (by rw [c18]; decide) (by rw [c18]; rfl) (by decide) ?_
      refine lv_aload_n hx hb dX7_spotNow_85 rfl (lv_at hl 1 rfl) ?_
      refine w_get hx hb hts hi7 hown hK hw 0 rfl rfl 42 (by decide) q3 rfl (v := .ref (o 16)) rfl dX7_spotNow_86 ?_
      refine lv_iload_n hx hb dX7_spotNow_89 rfl (lv_at hl 2 rfl) ?_
      obtain ⟨x19, g20, hf⟩ := bn1_e hf
      refine w_ald hx hb hK hw 16 rfl g20 dX7_spotNow_90 ?_
      have e0_ := sm1 hf
      exact hret _ _ _ _ _ hw e0_ (Or.inl rfl) dX7_spotNow_91
    have hf := if_f c18 hf
    by_cases c21 : a2 = 4
    · have hf := if_t c21 hf
      refine lv_tableIn (tgt := 92) hx hb dX7_spotNow_24 (by rw [c21]; decide) (by rw [c21]; decide) (by rw [c21]; rfl) (by decide) ?_
      refine lv_iload_n hx hb dX7_spotNow_92 rfl (lv_at hl 0 rfl) ?_
      obtain ⟨x22, g23, hf⟩ := bn1_e hf
      have fr := fr_X7_S o cA oM
      refine go_i (run_s (As := [.int x7]) (rest := []) ⟨hx, hb, hml, hown, hts⟩ (k_X7_size l D cA x7 x22 g23 H.size) (va_cwS 1 hts gX7_spotNow_X7_size rfl rfl rfl hd_X7_size ⟨Nat.le_of_ble_eq_true rfl, Nat.le_of_ble_eq_true rfl⟩) fr hw hK hA rfl hl.1 rfl (Nat.le_of_ble_eq_true rfl) dX7_spotNow_93 ⟨Nat.zero_le _, Nat.zero_le _⟩) fr hw hA (fun H locs hw => ?_)
      have e0_ := sm1 hf
      exact hret _ _ _ _ _ hw e0_ (Or.inl rfl) dX7_spotNow_96
    have hf := if_f c21 hf
    by_cases c24 : a2 = 5
    · have hf := if_t c24 hf
      refine lv_tableIn (tgt := 97) hx hb dX7_spotNow_24 (by rw [c24]; decide) (by rw [c24]; decide) (by rw [c24]; rfl) (by decide) ?_
      refine lv_aload_n hx hb dX7_spotNow_97 rfl (lv_at hl 1 rfl) ?_
      refine lv_aload_n hx hb dX7_spotNow_98 rfl (lv_at hl 1 rfl) ?_
      refine w_get hx hb hts hi7 hown hK hw 0 rfl rfl 39 (by decide) q0 rfl (v := .ref (o 13)) rfl dX7_spotNow_99 ?_
      refine lv_iload_n hx hb dX7_spotNow_102 rfl (lv_at hl 2 rfl) ?_
      obtain ⟨x25, g26, hf⟩ := bn1_e hf
      refine w_ald hx hb hK hw 13 rfl g26 dX7_spotNow_103 ?_
      refine lv_aload_n hx hb dX7_spotNow_104 rfl (lv_at hl 1 rfl) ?_
      refine w_get hx hb hts hi7 hown hK hw 0 rfl rfl 40 (by decide) q1 rfl (v := .ref (o 14)) rfl dX7_spotNow_105 ?_
      refine lv_iload_n hx hb dX7_spotNow_108 rfl (lv_at hl 2 rfl) ?_
      obtain ⟨x27, g28, hf⟩ := bn1_e hf
      refine w_ald hx hb hK hw 14 rfl g28 dX7_spotNow_109 ?_
      refine lv_iload_n hx hb dX7_spotNow_110 rfl (lv_at hl 0 rfl) ?_
      obtain ⟨x29, g30, hf⟩ := bn1_e hf
      have fr := fr_X7_X7_oM o cA oM oM
      refine go_i (run_v (As := [.int x25, .int x27, .int x7]) (rest := []) ⟨hx, hb, hml, hown, hts⟩ (k_X7_spanOf l D cA o oM x25 x27 x7 x29 g30 H.size) (cwV 3 hts gX7_spotNow_X7_spanOf rfl rfl rfl hd_X7_spanOf ⟨Nat.le_of_ble_eq_true rfl, Nat.le_of_ble_eq_true rfl⟩) fr hw hK hA hZo hZ (ci := 7) rfl rfl rfl rfl hl.1 rfl (Nat.le_of_ble_eq_true rfl) dX7_spotNow_111 ⟨Nat.zero_le _, Nat.zero_le _⟩) fr hw hA (fun H locs hw => ?_)
      have e0_ := sm1 hf
      exact hret _ _ _ _ _ hw e0_ (Or.inl rfl) dX7_spotNow_114
    have hf := if_f c24 hf
    refine lv_tableOut (tgt := 115) hx hb dX7_spotNow_24 (w_out (n := 6) (by decide) (fun k hk => ?_)) (by decide) ?_
    · match k, hk with
      | 0, _ => exact c9
      | 1, _ => exact c12
      | 2, _ => exact c15
      | 3, _ => exact c18
      | 4, _ => exact c21
      | 5, _ => exact c24
      | k + 6, hk => omega
    refine lv_iload_n hx hb dX7_spotNow_115 rfl (lv_at hl 0 rfl) ?_
    have e0_ := sm1 hf
    exact hret _ _ _ _ _ hw e0_ (Or.inl rfl) dX7_spotNow_116
  rw [hH, hlc] at goal
  exact goal
abbrev rmX7_spot : Room := { frames := 6, cells := 0, slots := 0, locals := 149 }
theorem hd_X7_spot : yX7_spot.cls = RX7 ∧ yX7_spot.cls ≠ "java/lang/invoke/MethodHandle" ∧ yX7_spot.cls ≠ "java/lang/invoke/VarHandle" ∧ (parseMethodDescriptor yX7_spot.desc).map (fun d => d.parameters.length) = some 2 := by decide +kernel
set_option maxHeartbeats 4000000 in
set_option maxRecDepth 100000 in
theorem k_X7_spot (l : Launch) (D : va_G) (cA : ClassId) (o : Nat → Nat) (oM : St) (a1 : Int32) (a2 : Int32) (r : Int32) (oM' : St) (hf : f_X7_spot oM a1 a2 = some (r, oM')) : Mi l yX7_spot wsX7_spot rmX7_spot D cA z_0 [.ref (o 0), .int a1, .int a2] (wX7 o cA oM) r (wX7 o cA oM') := by
  refine Mi.of (cc := cX7_spot) (maxL := 3) (ret := (some .int)) (plainFor_of_name (by decide)) rfl (Nat.le_of_ble_eq_true rfl) (Or.inl rfl) ?_
  intro p e s m below meth c A Q hx hb hml hown hts hK hA hZ hret ls hl hw
  replace hown : s.vm.findClass RX7 = some m.cls := hown
  have hl : lv_has ls 3 [(0, .ref (o 0)), (1, .int a1), (2, .int a2)] := hl
  have hZo := z_0_ok
  have hi7 : ∀ w ∈ wsX70, w ∈ wsX7_spot := fun w h => List.mem_cons_of_mem _ (List.mem_append_right _ h)
  have q0 := hts (.fieldLink RX7 259 "ArcRingsModel" "spotMany" "I") (by decide +kernel)
  unfold f_X7_spot at hf
  obtain ⟨H, hH⟩ : ∃ H, H = s.heap := ⟨_, rfl⟩
  obtain ⟨locs, hlc⟩ : ∃ locs : List Loc, locs = [] := ⟨_, rfl⟩
  have hw : Wd D A s.heap H locs (wX7 o cA oM) := by rw [hH, hlc]; exact hw
  have goal : W p l e rmX7_spot s m ([.ref (o 0), .int a1, .int a2] : List Value).toArray below meth c H locs 0 0 Q (F0 m 0 ls []) := by
    clear hH hlc
    refine lv_aload_n hx hb dX7_spot_0 rfl (lv_at hl 0 rfl) ?_
    obtain ⟨x1, g2, hf⟩ := bn1_e hf
    have fr := fr_X7_X7_oM o cA oM oM
    refine go_i (run_v (As := []) (rest := []) ⟨hx, hb, hml, hown, hts⟩ (k_X7_isSheet l D cA o oM x1 g2 H.size) (cwV 0 hts gX7_spot_X7_isSheet rfl rfl rfl hd_X7_isSheet ⟨Nat.le_of_ble_eq_true rfl, Nat.le_of_ble_eq_true rfl⟩) fr hw hK hA hZo hZ (ci := 7) rfl rfl rfl rfl hl.1 rfl (Nat.le_of_ble_eq_true rfl) dX7_spot_1 ⟨Nat.zero_le _, Nat.zero_le _⟩) fr hw hA (fun H locs hw => ?_)
    refine lv_if_ne (tgt := 10) hx hb dX7_spot_4 (by decide) (fun c3 => ?_) (fun c3 => ?_)
    · have hf := if_f c3 hf
      refine lv_aload_n hx hb dX7_spot_10 rfl (lv_at hl 0 rfl) ?_
      obtain ⟨oM4, g5, hf⟩ := bn1_e hf
      have fr := fr_X7_X7_oM o cA oM oM4
      refine go_v (run_v (As := []) (rest := []) ⟨hx, hb, hml, hown, hts⟩ (k_X7_laySpots l D cA o oM oM4 g5 H.size) (cwV 0 hts gX7_spot_X7_laySpots rfl rfl rfl hd_X7_laySpots ⟨Nat.le_of_ble_eq_true rfl, Nat.le_of_ble_eq_true rfl⟩) fr hw hK hA hZo hZ (ci := 7) rfl rfl rfl rfl hl.1 rfl (Nat.le_of_ble_eq_true rfl) dX7_spot_11 ⟨Nat.zero_le _, Nat.zero_le _⟩) fr hw hA (fun H locs hw => ?_)
      refine lv_iload_n hx hb dX7_spot_14 rfl (lv_at hl 1 rfl) ?_
      refine lv_iconst (v := 0) hx hb dX7_spot_15 (by decide) ?_
      refine lv_aload_n hx hb dX7_spot_16 rfl (lv_at hl 0 rfl) ?_
      refine w_get hx hb hts hi7 hown hK hw 0 rfl rfl 36 (by decide) q0 rfl (v := .int (oM4.1 36)) rfl dX7_spot_17 ?_
      refine lv_iconst (v := 1) hx hb dX7_spot_20 (by decide) ?_
      refine lv_isub hx hb dX7_spot_21 ?_
      obtain ⟨x6, g7, hf⟩ := bn1_e hf
      have fr := fr_X7_S o cA oM4
      refine go_i (run_s (As := [.int a1, .int 0, .int ((oM4.1 36) - 1)]) (rest := []) ⟨hx, hb, hml, hown, hts⟩ (k_X7_within l D cA a1 0 ((oM4.1 36) - 1) x6 g7 H.size) (va_cwS 3 hts gX7_spot_X7_within rfl rfl rfl hd_X7_within ⟨Nat.le_of_ble_eq_true rfl, Nat.le_of_ble_eq_true rfl⟩) fr hw hK hA rfl hl.1 rfl (Nat.le_of_ble_eq_true rfl) dX7_spot_22 ⟨Nat.zero_le _, Nat.zero_le _⟩) fr hw hA (fun H locs hw => ?_)
      refine lv_if_ne (tgt := 31) hx hb dX7_spot_25 (by decide) (fun c8 => ?_) (fun c8 => ?_)
      · have hf := if_f c8 hf
        refine lv_iload_n hx hb dX7_spot_31 rfl (lv_at hl 2 rfl) ?_
        refine lv_iconst (v := 0) hx hb dX7_spot_32 (by decide) ?_
        refine lv_bipush (v := 6) hx hb dX7_spot_33 (by decide) ?_
        obtain ⟨x9, g10, hf⟩ := bn1_e hf
        have fr := fr_X7_S o cA oM4
        refine go_i (run_s (As := [.int a2, .int 0, .int 6]) (rest := []) ⟨hx, hb, hml, hown, hts⟩ (k_X7_within l D cA a2 0 6 x9 g10 H.size) (va_cwS 3 hts gX7_spot_X7_within rfl rfl rfl hd_X7_within ⟨Nat.le_of_ble_eq_true rfl, Nat.le_of_ble_eq_true rfl⟩) fr hw hK hA rfl hl.1 rfl (Nat.le_of_ble_eq_true rfl) dX7_spot_35 ⟨Nat.zero_le _, Nat.zero_le _⟩) fr hw hA (fun H locs hw => ?_)
        refine lv_if_eq (tgt := 50) hx hb dX7_spot_38 (by decide) (fun c11 => ?_) (fun c11 => ?_)
        · have hf := if_t c11 hf
          refine lv_bipush (v := (-102)) hx hb dX7_spot_50 (by decide) ?_
          obtain ⟨e0_, e1_⟩ := sm2 hf
          exact hret _ _ _ _ _ (by rw [← e1_]; exact hw) e0_ (Or.inl rfl) dX7_spot_52
        · have hf := if_f c11 hf
          refine lv_aload_n hx hb dX7_spot_41 rfl (lv_at hl 0 rfl) ?_
          refine lv_iload_n hx hb dX7_spot_42 rfl (lv_at hl 1 rfl) ?_
          refine lv_iload_n hx hb dX7_spot_43 rfl (lv_at hl 2 rfl) ?_
          obtain ⟨x12, g13, hf⟩ := bn1_e hf
          have fr := fr_X7_X7_oM o cA oM4 oM4
          refine go_i (run_v (As := [.int a1, .int a2]) (rest := []) ⟨hx, hb, hml, hown, hts⟩ (k_X7_spotNow l D cA o oM4 a1 a2 x12 g13 H.size) (cwV 2 hts gX7_spot_X7_spotNow rfl rfl rfl hd_X7_spotNow ⟨Nat.le_of_ble_eq_true rfl, Nat.le_of_ble_eq_true rfl⟩) fr hw hK hA hZo hZ (ci := 7) rfl rfl rfl rfl hl.1 rfl (Nat.le_of_ble_eq_true rfl) dX7_spot_44 ⟨Nat.zero_le _, Nat.zero_le _⟩) fr hw hA (fun H locs hw => ?_)
          refine lv_goto (tgt := 52) hx hb dX7_spot_47 (by decide) ?_
          obtain ⟨e0_, e1_⟩ := sm2 hf
          exact hret _ _ _ _ _ (by rw [← e1_]; exact hw) e0_ (Or.inl rfl) dX7_spot_52
      · have hf := if_t c8 hf
        refine lv_bipush (v := (-101)) hx hb dX7_spot_28 (by decide) ?_
        obtain ⟨e0_, e1_⟩ := sm2 hf
        exact hret _ _ _ _ _ (by rw [← e1_]; exact hw) e0_ (Or.inl rfl) dX7_spot_30
    · have hf := if_t c3 hf
      refine lv_bipush (v := (-101)) hx hb dX7_spot_7 (by decide) ?_
      obtain ⟨e0_, e1_⟩ := sm2 hf
      exact hret _ _ _ _ _ (by rw [← e1_]; exact hw) e0_ (Or.inl rfl) dX7_spot_9
  rw [hH, hlc] at goal
  exact goal
abbrev rmX7_bestMany : Room := { frames := 0, cells := 0, slots := 0, locals := 0 }
theorem hd_X7_bestMany : yX7_bestMany.cls = RX7 ∧ yX7_bestMany.cls ≠ "java/lang/invoke/MethodHandle" ∧ yX7_bestMany.cls ≠ "java/lang/invoke/VarHandle" ∧ (parseMethodDescriptor yX7_bestMany.desc).map (fun d => d.parameters.length) = some 0 := by decide +kernel
set_option maxHeartbeats 4000000 in
set_option maxRecDepth 100000 in
theorem k_X7_bestMany (l : Launch) (D : va_G) (cA : ClassId) (o : Nat → Nat) (oM : St) (r : Int32) (hf : f_X7_bestMany oM = some (r)) : Mi l yX7_bestMany wsX7_bestMany rmX7_bestMany D cA z_0 [.ref (o 0)] (wX7 o cA oM) r (wX7 o cA oM) := by
  refine Mi.of (cc := cX7_bestMany) (maxL := 3) (ret := (some .int)) (plainFor_of_name (by decide)) rfl (Nat.le_of_ble_eq_true rfl) (Or.inl rfl) ?_
  intro p e s m below meth c A Q hx hb hml hown hts hK hA hZ hret ls hl hw
  replace hown : s.vm.findClass RX7 = some m.cls := hown
  have hl : lv_has ls 3 [(0, .ref (o 0))] := hl
  have hZo := z_0_ok
  have hi7 : ∀ w ∈ wsX70, w ∈ wsX7_bestMany := fun w h => List.mem_cons_of_mem _ (List.mem_append_right _ h)
  have q0 := hts (.fieldLink RX7 259 "ArcRingsModel" "spotMany" "I") (by decide +kernel)
  have q1 := hts (.fieldLink RX7 55 "ArcRingsModel" "spotVotes" "[I") (by decide +kernel)
  have h_L4 : ∀ (n : Nat) (v1 : Int32) (v2 : Int32), f_X7_bestMany_L4 oM n v1 v2 = some (r) → ∀ (H : Heap) (locs : List Loc) (ls : Array Slot), Wd D A s.heap H locs (wX7 o cA oM) → lv_has ls 3 [(0, .ref (o 0)), (1, .int v1), (2, .int v2)] → W p l e rmX7_bestMany s m ([.ref (o 0)] : List Value).toArray below meth c H locs 0 0 Q (F0 m 4 ls []) := by
    intro n
    induction n with
    | zero =>
      intro v1 v2 hf
      have hf : none = some (r) := hf
      cases hf
    | succ n ih =>
      intro v1 v2 hf H locs ls hw hl
      have hf := (f_X7_bestMany_L4_s oM n v1 v2).symm.trans hf
      refine lv_iload_n hx hb dX7_bestMany_4 rfl (lv_at hl 2 rfl) ?_
      refine lv_aload_n hx hb dX7_bestMany_5 rfl (lv_at hl 0 rfl) ?_
      refine w_get hx hb hts hi7 hown hK hw 0 rfl rfl 36 (by decide) q0 rfl (v := .int (oM.1 36)) rfl dX7_bestMany_6 ?_
      refine lv_icmp_ge (tgt := 41) hx hb dX7_bestMany_9 (by decide) (fun c1 => ?_) (fun c1 => ?_)
      · have hf := if_t c1 hf
        refine lv_iload_n hx hb dX7_bestMany_41 rfl (lv_at hl 1 rfl) ?_
        have e0_ := sm1 hf
        exact hret _ _ _ _ _ hw e0_ (Or.inl rfl) dX7_bestMany_42
      · have hf := if_f c1 hf
        refine lv_iload_n hx hb dX7_bestMany_12 rfl (lv_at hl 1 rfl) ?_
        refine lv_aload_n hx hb dX7_bestMany_13 rfl (lv_at hl 0 rfl) ?_
        refine w_get hx hb hts hi7 hown hK hw 0 rfl rfl 42 (by decide) q1 rfl (v := .ref (o 16)) rfl dX7_bestMany_14 ?_
        refine lv_iload_n hx hb dX7_bestMany_17 rfl (lv_at hl 2 rfl) ?_
        obtain ⟨x2, g3, hf⟩ := bn1_e hf
        refine w_ald hx hb hK hw 16 rfl g3 dX7_bestMany_18 ?_
        refine lv_aload_n hx hb dX7_bestMany_19 rfl (lv_at hl 0 rfl) ?_
        refine w_get hx hb hts hi7 hown hK hw 0 rfl rfl 42 (by decide) q1 rfl (v := .ref (o 16)) rfl dX7_bestMany_20 ?_
        refine lv_iconst (v := 0) hx hb dX7_bestMany_23 (by decide) ?_
        obtain ⟨x4, g5, hf⟩ := bn1_e hf
        refine w_ald hx hb hK hw 16 rfl g5 dX7_bestMany_24 ?_
        refine lv_icmp_ne (tgt := 32) hx hb dX7_bestMany_25 (by decide) (fun c6 => ?_) (fun c6 => ?_)
        · have hf := if_f c6 hf
          refine lv_iconst (v := 0) hx hb dX7_bestMany_32 (by decide) ?_
          refine lv_iadd hx hb dX7_bestMany_33 ?_
          refine lv_istore_n (lv' := [(1, .int (v1 + 0)), (0, .ref (o 0)), (2, .int v2)]) hx hb dX7_bestMany_34 rfl hl (by decide) rfl (fun ls hl => ?_)
          refine lv_iinc (v := v2 + 1) (lv' := [(2, .int (v2 + 1)), (1, .int (v1 + 0)), (0, .ref (o 0))]) hx hb dX7_bestMany_35 hl (k := 2) rfl (by rfl) (by decide) rfl (fun ls hl => ?_)
          refine lv_goto (tgt := 4) hx hb dX7_bestMany_38 (by decide) ?_
          exact ih (v1 + 0) (v2 + 1) hf H locs ls hw (lv_sub hl [2, 1, 0] rfl)
        · have hf := if_t c6 hf
          refine lv_iconst (v := 1) hx hb dX7_bestMany_28 (by decide) ?_
          refine lv_goto (tgt := 33) hx hb dX7_bestMany_29 (by decide) ?_
          refine lv_iadd hx hb dX7_bestMany_33 ?_
          refine lv_istore_n (lv' := [(1, .int (v1 + 1)), (0, .ref (o 0)), (2, .int v2)]) hx hb dX7_bestMany_34 rfl hl (by decide) rfl (fun ls hl => ?_)
          refine lv_iinc (v := v2 + 1) (lv' := [(2, .int (v2 + 1)), (1, .int (v1 + 1)), (0, .ref (o 0))]) hx hb dX7_bestMany_35 hl (k := 2) rfl (by rfl) (by decide) rfl (fun ls hl => ?_)
          refine lv_goto (tgt := 4) hx hb dX7_bestMany_38 (by decide) ?_
          exact ih (v1 + 1) (v2 + 1) hf H locs ls hw (lv_sub hl [2, 1, 0] rfl)
  unfold f_X7_bestMany at hf
  obtain ⟨H, hH⟩ : ∃ H, H = s.heap := ⟨_, rfl⟩
  obtain ⟨locs, hlc⟩ : ∃ locs : List Loc, locs = [] := ⟨_, rfl⟩
  have hw : Wd D A s.heap H locs (wX7 o cA oM) := by rw [hH, hlc]; exact hw
  have goal : W p l e rmX7_bestMany s m ([.ref (o 0)] : List Value).toArray below meth c H locs 0 0 Q (F0 m 0 ls []) := by
    clear hH hlc
    refine lv_iconst (v := 0) hx hb dX7_bestMany_0 (by decide) ?_
    refine lv_istore_n (lv' := [(1, .int 0), (0, .ref (o 0))]) hx hb dX7_bestMany_1 rfl hl (by decide) rfl (fun ls hl => ?_)
    refine lv_iconst (v := 0) hx hb dX7_bestMany_2 (by decide) ?_
    refine lv_istore_n (lv' := [(2, .int 0), (1, .int 0), (0, .ref (o 0))]) hx hb dX7_bestMany_3 rfl hl (by decide) rfl (fun ls hl => ?_)
    exact h_L4  _ 0 0 hf H locs ls hw (lv_sub hl [2, 1, 0] rfl)
  rw [hH, hlc] at goal
  exact goal
