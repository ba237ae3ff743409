abbrev rmX7_spotsNow : Room := { frames := 6, cells := 0, slots := 0, locals := 149 }
theorem hd_X7_spotsNow : yX7_spotsNow.cls = RX7 ∧ yX7_spotsNow.cls ≠ "java/lang/invoke/MethodHandle" ∧ yX7_spotsNow.cls ≠ "java/lang/invoke/VarHandle" ∧ (parseMethodDescriptor yX7_spotsNow.desc).map (fun d => d.parameters.length) = some 1 := by decide +kernel
set_option maxHeartbeats 4000000 in
set_option maxRecDepth 100000 in
theorem k_X7_spotsNow (l : Launch) (D : va_G) (cA : ClassId) (o : Nat → Nat) (oM : St) (a1 : Int32) (r : Int32) (oM' : St) (hf : f_X7_spotsNow oM a1 = some (r, oM')) : Mi l yX7_spotsNow wsX7_spotsNow rmX7_spotsNow D cA z_0 [.ref (o 0), .int a1] (wX7 o cA oM) r (wX7 o cA oM') := by
  refine Mi.of (cc := cX7_spotsNow) (maxL := 2) (ret := (some .int)) (plainFor_of_name (by decide)) rfl (Nat.le_of_ble_eq_true rfl) (Or.inl rfl) ?_
  intro p e s m below meth c A Q hx hb hml hown hts hK hA hZ hret ls hl hw
  replace hown : s.vm.findClass RX7 = some m.cls := hown
  have hl : lv_has ls 2 [(0, .ref (o 0)), (1, .int a1)] := hl
  have hZo := z_0_ok
  have hi7 : ∀ w ∈ wsX70, w ∈ wsX7_spotsNow := fun w h => List.mem_cons_of_mem _ (List.mem_append_right _ h)
  have q0 := hts (.fieldLink RX7 269 "ArcRingsModel" "circlesAll" "I") (by decide +kernel)
  have q1 := hts (.fieldLink RX7 266 "ArcRingsModel" "votesAll" "I") (by decide +kernel)
  have q2 := hts (.fieldLink RX7 259 "ArcRingsModel" "spotMany" "I") (by decide +kernel)
  unfold f_X7_spotsNow at hf
  obtain ⟨H, hH⟩ : ∃ H, H = s.heap := ⟨_, rfl⟩
  obtain ⟨locs, hlc⟩ : ∃ locs : List Loc, locs = [] := ⟨_, rfl⟩
  have hw : Wd D A s.heap H locs (wX7 o cA oM) := by rw [hH, hlc]; exact hw
  have goal : W p l e rmX7_spotsNow s m ([.ref (o 0), .int a1] : List Value).toArray below meth c H locs 0 0 Q (F0 m 0 ls []) := by
    clear hH hlc
    refine lv_aload_n hx hb dX7_spotsNow_0 rfl (lv_at hl 0 rfl) ?_
    obtain ⟨oM1, g2, hf⟩ := bn1_e hf
    have fr := fr_X7_X7_oM o cA oM oM1
    refine go_v (run_v (As := []) (rest := []) ⟨hx, hb, hml, hown, hts⟩ (k_X7_laySpots l D cA o oM oM1 g2 H.size) (cwV 0 hts gX7_spotsNow_X7_laySpots rfl rfl rfl hd_X7_laySpots ⟨Nat.le_of_ble_eq_true rfl, Nat.le_of_ble_eq_true rfl⟩) fr hw hK hA hZo hZ (ci := 7) rfl rfl rfl rfl hl.1 rfl (Nat.le_of_ble_eq_true rfl) dX7_spotsNow_1 ⟨Nat.zero_le _, Nat.zero_le _⟩) fr hw hA (fun H locs hw => ?_)
    refine lv_iload_n hx hb dX7_spotsNow_4 rfl (lv_at hl 1 rfl) ?_
    refine lv_if_ne (tgt := 15) hx hb dX7_spotsNow_5 (by decide) (fun c3 => ?_) (fun c3 => ?_)
    · have hf := if_f c3 hf
      refine lv_iload_n hx hb dX7_spotsNow_15 rfl (lv_at hl 1 rfl) ?_
      refine lv_iconst (v := 1) hx hb dX7_spotsNow_16 (by decide) ?_
      refine lv_icmp_ne (tgt := 27) hx hb dX7_spotsNow_17 (by decide) (fun c4 => ?_) (fun c4 => ?_)
      · have hf := if_f c4 hf
        refine lv_iload_n hx hb dX7_spotsNow_27 rfl (lv_at hl 1 rfl) ?_
        refine lv_iconst (v := 2) hx hb dX7_spotsNow_28 (by decide) ?_
        refine lv_icmp_ne (tgt := 39) hx hb dX7_spotsNow_29 (by decide) (fun c5 => ?_) (fun c5 => ?_)
        · have hf := if_f c5 hf
          refine lv_aload_n hx hb dX7_spotsNow_39 rfl (lv_at hl 0 rfl) ?_
          obtain ⟨x6, g7, hf⟩ := bn1_e hf
          have fr := fr_X7_X7_oM o cA oM1 oM1
          refine go_i (run_v (As := []) (rest := []) ⟨hx, hb, hml, hown, hts⟩ (k_X7_bestMany l D cA o oM1 x6 g7 H.size) (cwV 0 hts gX7_spotsNow_X7_bestMany rfl rfl rfl hd_X7_bestMany ⟨Nat.le_of_ble_eq_true rfl, Nat.le_of_ble_eq_true rfl⟩) fr hw hK hA hZo hZ (ci := 7) rfl rfl rfl rfl hl.1 rfl (Nat.le_of_ble_eq_true rfl) dX7_spotsNow_40 ⟨Nat.zero_le _, Nat.zero_le _⟩) fr hw hA (fun H locs hw => ?_)
          obtain ⟨e0_, e1_⟩ := sm2 hf
          exact hret _ _ _ _ _ (by rw [← e1_]; exact hw) e0_ (Or.inl rfl) dX7_spotsNow_43
        · have hf := if_t c5 hf
          refine lv_aload_n hx hb dX7_spotsNow_32 rfl (lv_at hl 0 rfl) ?_
          refine w_get hx hb hts hi7 hown hK hw 0 rfl rfl 38 (by decide) q0 rfl (v := .int (oM1.1 38)) rfl dX7_spotsNow_33 ?_
          refine lv_goto (tgt := 43) hx hb dX7_spotsNow_36 (by decide) ?_
          obtain ⟨e0_, e1_⟩ := sm2 hf
          exact hret _ _ _ _ _ (by rw [← e1_]; exact hw) e0_ (Or.inl rfl) dX7_spotsNow_43
      · have hf := if_t c4 hf
        refine lv_aload_n hx hb dX7_spotsNow_20 rfl (lv_at hl 0 rfl) ?_
        refine w_get hx hb hts hi7 hown hK hw 0 rfl rfl 37 (by decide) q1 rfl (v := .int (oM1.1 37)) rfl dX7_spotsNow_21 ?_
        refine lv_goto (tgt := 43) hx hb dX7_spotsNow_24 (by decide) ?_
        obtain ⟨e0_, e1_⟩ := sm2 hf
        exact hret _ _ _ _ _ (by rw [← e1_]; exact hw) e0_ (Or.inl rfl) dX7_spotsNow_43
    · have hf := if_t c3 hf
      refine lv_aload_n hx hb dX7_spotsNow_8 rfl (lv_at hl 0 rfl) ?_
      refine w_get hx hb hts hi7 hown hK hw 0 rfl rfl 36 (by decide) q2 rfl (v := .int (oM1.1 36)) rfl dX7_spotsNow_9 ?_
      refine lv_goto (tgt := 43) hx hb dX7_spotsNow_12 (by decide) ?_
      obtain ⟨e0_, e1_⟩ := sm2 hf
      exact hret _ _ _ _ _ (by rw [← e1_]; exact hw) e0_ (Or.inl rfl) dX7_spotsNow_43
  rw [hH, hlc] at goal
  exact goal
abbrev rmX7_spots : Room := { frames := 7, cells := 0, slots := 0, locals := 170 }
theorem hd_X7_spots : yX7_spots.cls = RX7 ∧ yX7_spots.cls ≠ "java/lang/invoke/MethodHandle" ∧ yX7_spots.cls ≠ "java/lang/invoke/VarHandle" ∧ (parseMethodDescriptor yX7_spots.desc).map (fun d => d.parameters.length) = some 1 := by decide +kernel
set_option maxHeartbeats 4000000 in
set_option maxRecDepth 100000 in
theorem k_X7_spots (l : Launch) (D : va_G) (cA : ClassId) (o : Nat → Nat) (oM : St) (a1 : Int32) (r : Int32) (oM' : St) (hf : f_X7_spots oM a1 = some (r, oM')) : Mi l yX7_spots wsX7_spots rmX7_spots D cA z_0 [.ref (o 0), .int a1] (wX7 o cA oM) r (wX7 o cA oM') := by
  refine Mi.of (cc := cX7_spots) (maxL := 2) (ret := (some .int)) (plainFor_of_name (by decide)) rfl (Nat.le_of_ble_eq_true rfl) (Or.inl rfl) ?_
  intro p e s m below meth c A Q hx hb hml hown hts hK hA hZ hret ls hl hw
  replace hown : s.vm.findClass RX7 = some m.cls := hown
  have hl : lv_has ls 2 [(0, .ref (o 0)), (1, .int a1)] := hl
  have hZo := z_0_ok
  unfold f_X7_spots at hf
  obtain ⟨H, hH⟩ : ∃ H, H = s.heap := ⟨_, rfl⟩
  obtain ⟨locs, hlc⟩ : ∃ locs : List Loc, locs = [] := ⟨_, rfl⟩
  have hw : Wd D A s.heap H locs (wX7 o cA oM) := by rw [hH, hlc]; exact hw
  have goal : W p l e rmX7_spots s m ([.ref (o 0), .int a1] : List Value).toArray below meth c H locs 0 0 Q (F0 m 0 ls []) := by
    clear hH hlc
    refine lv_iload_n hx hb dX7_spots_0 rfl (lv_at hl 1 rfl) ?_
    refine lv_iconst (v := 0) hx hb dX7_spots_1 (by decide) ?_
    refine lv_iconst (v := 3) hx hb dX7_spots_2 (by decide) ?_
    obtain ⟨x1, g2, hf⟩ := bn1_e hf
    have fr := fr_X7_S o cA oM
    refine go_i (run_s (As := [.int a1, .int 0, .int 3]) (rest := []) ⟨hx, hb, hml, hown, hts⟩ (k_X7_within l D cA a1 0 3 x1 g2 H.size) (va_cwS 3 hts gX7_spots_X7_within rfl rfl rfl hd_X7_within ⟨Nat.le_of_ble_eq_true rfl, Nat.le_of_ble_eq_true rfl⟩) fr hw hK hA rfl hl.1 rfl (Nat.le_of_ble_eq_true rfl) dX7_spots_3 ⟨Nat.zero_le _, Nat.zero_le _⟩) fr hw hA (fun H locs hw => ?_)
    refine lv_if_ne (tgt := 12) hx hb dX7_spots_6 (by decide) (fun c3 => ?_) (fun c3 => ?_)
    · have hf := if_f c3 hf
      refine lv_aload_n hx hb dX7_spots_12 rfl (lv_at hl 0 rfl) ?_
      obtain ⟨x4, g5, hf⟩ := bn1_e hf
      have fr := fr_X7_X7_oM o cA oM oM
      refine go_i (run_v (As := []) (rest := []) ⟨hx, hb, hml, hown, hts⟩ (k_X7_isSheet l D cA o oM x4 g5 H.size) (cwV 0 hts gX7_spots_X7_isSheet rfl rfl rfl hd_X7_isSheet ⟨Nat.le_of_ble_eq_true rfl, Nat.le_of_ble_eq_true rfl⟩) fr hw hK hA hZo hZ (ci := 7) rfl rfl rfl rfl hl.1 rfl (Nat.le_of_ble_eq_true rfl) dX7_spots_13 ⟨Nat.zero_le _, Nat.zero_le _⟩) fr hw hA (fun H locs hw => ?_)
      refine lv_if_eq (tgt := 27) hx hb dX7_spots_16 (by decide) (fun c6 => ?_) (fun c6 => ?_)
      · have hf := if_t c6 hf
        refine lv_bipush (v := (-103)) hx hb dX7_spots_27 (by decide) ?_
        obtain ⟨e0_, e1_⟩ := sm2 hf
        exact hret _ _ _ _ _ (by rw [← e1_]; exact hw) e0_ (Or.inl rfl) dX7_spots_29
      · have hf := if_f c6 hf
        refine lv_aload_n hx hb dX7_spots_19 rfl (lv_at hl 0 rfl) ?_
        refine lv_iload_n hx hb dX7_spots_20 rfl (lv_at hl 1 rfl) ?_
        obtain ⟨x7, oM8, g9, hf⟩ := bn2_e hf
        have fr := fr_X7_X7_oM o cA oM oM8
        refine go_i (run_v (As := [.int a1]) (rest := []) ⟨hx, hb, hml, hown, hts⟩ (k_X7_spotsNow l D cA o oM a1 x7 oM8 g9 H.size) (cwV 1 hts gX7_spots_X7_spotsNow rfl rfl rfl hd_X7_spotsNow ⟨Nat.le_of_ble_eq_true rfl, Nat.le_of_ble_eq_true rfl⟩) fr hw hK hA hZo hZ (ci := 7) rfl rfl rfl rfl hl.1 rfl (Nat.le_of_ble_eq_true rfl) dX7_spots_21 ⟨Nat.zero_le _, Nat.zero_le _⟩) fr hw hA (fun H locs hw => ?_)
        refine lv_goto (tgt := 29) hx hb dX7_spots_24 (by decide) ?_
        obtain ⟨e0_, e1_⟩ := sm2 hf
        exact hret _ _ _ _ _ (by rw [← e1_]; exact hw) e0_ (Or.inl rfl) dX7_spots_29
    · have hf := if_t c3 hf
      refine lv_bipush (v := (-102)) hx hb dX7_spots_9 (by decide) ?_
      obtain ⟨e0_, e1_⟩ := sm2 hf
      exact hret _ _ _ _ _ (by rw [← e1_]; exact hw) e0_ (Or.inl rfl) dX7_spots_11
  rw [hH, hlc] at goal
  exact goal
abbrev rmX7_bestSpot : Room := { frames := 4, cells := 0, slots := 0, locals := 109 }
theorem hd_X7_bestSpot : yX7_bestSpot.cls = RX7 ∧ yX7_bestSpot.cls ≠ "java/lang/invoke/MethodHandle" ∧ yX7_bestSpot.cls ≠ "java/lang/invoke/VarHandle" ∧ (parseMethodDescriptor yX7_bestSpot.desc).map (fun d => d.parameters.length) = some 1 := by decide +kernel
set_option maxHeartbeats 4000000 in
set_option maxRecDepth 100000 in
theorem k_X7_bestSpot (l : Launch) (D : va_G) (cA : ClassId) (o : Nat → Nat) (oM : St) (a1 : Int32) (r : Int32) (hf : f_X7_bestSpot oM a1 = some (r)) : Mi l yX7_bestSpot wsX7_bestSpot rmX7_bestSpot D cA z_0 [.ref (o 0), .int a1] (wX7 o cA oM) r (wX7 o cA oM) := by
  refine Mi.of (cc := cX7_bestSpot) (maxL := 8) (ret := (some .int)) (plainFor_of_name (by decide)) rfl (Nat.le_of_ble_eq_true rfl) (Or.inl rfl) ?_
  intro p e s m below meth c A Q hx hb hml hown hts hK hA hZ hret ls hl hw
  replace hown : s.vm.findClass RX7 = some m.cls := hown
  have hl : lv_has ls 8 [(0, .ref (o 0)), (1, .int a1)] := hl
  have hZo := z_0_ok
  have hi7 : ∀ w ∈ wsX70, w ∈ wsX7_bestSpot := fun w h => List.mem_cons_of_mem _ (List.mem_append_right _ h)
  have q0 := hts (.fieldLink RX7 259 "ArcRingsModel" "spotMany" "I") (by decide +kernel)
  have q1 := hts (.fieldLink RX7 46 "ArcRingsModel" "spotX" "[I") (by decide +kernel)
  have q2 := hts (.fieldLink RX7 49 "ArcRingsModel" "spotY" "[I") (by decide +kernel)
  have q3 := hts (.fieldLink RX7 52 "ArcRingsModel" "spotR" "[I") (by decide +kernel)
  have q4 := hts (.fieldLink RX7 22 "ArcRingsModel" "bounds" "[I") (by decide +kernel)
  have h_L7 : ∀ (v1 : Int32), ∀ (n : Nat) (v2 : Int32) (v3 : Int32) (v4 : Int32), f_X7_bestSpot_L7 oM v1 n v2 v3 v4 = some (r) → ∀ (H : Heap) (locs : List Loc) (ls : Array Slot), Wd D A s.heap H locs (wX7 o cA oM) → lv_has ls 8 [(0, .ref (o 0)), (1, .int v1), (2, .int v2), (3, .int v3), (4, .int v4)] → W p l e rmX7_bestSpot s m ([.ref (o 0), .int a1] : List Value).toArray below meth c H locs 0 0 Q (F0 m 7 ls []) := by
    intro v1 n
    induction n with
    | zero =>
      intro v2 v3 v4 hf
      have hf : none = some (r) := hf
      cases hf
    | succ n ih =>
      intro v2 v3 v4 hf H locs ls hw hl
      have hf := (f_X7_bestSpot_L7_s oM v1 n v2 v3 v4).symm.trans hf
      refine lv_iload hx hb dX7_bestSpot_7 (lv_at hl 4 rfl) ?_
      refine lv_aload_n hx hb dX7_bestSpot_9 rfl (lv_at hl 0 rfl) ?_
      refine w_get hx hb hts hi7 hown hK hw 0 rfl rfl 36 (by decide) q0 rfl (v := .int (oM.1 36)) rfl dX7_bestSpot_10 ?_
      refine lv_icmp_ge (tgt := 147) hx hb dX7_bestSpot_13 (by decide) (fun c1 => ?_) (fun c1 => ?_)
      · have hf := if_t c1 hf
        refine lv_iload_n hx hb dX7_bestSpot_147 rfl (lv_at hl 2 rfl) ?_
        have e0_ := sm1 hf
        exact hret _ _ _ _ _ hw e0_ (Or.inl rfl) dX7_bestSpot_148
      · have hf := if_f c1 hf
        refine lv_aload_n hx hb dX7_bestSpot_16 rfl (lv_at hl 0 rfl) ?_
        refine lv_aload_n hx hb dX7_bestSpot_17 rfl (lv_at hl 0 rfl) ?_
        refine w_get hx hb hts hi7 hown hK hw 0 rfl rfl 39 (by decide) q1 rfl (v := .ref (o 13)) rfl dX7_bestSpot_18 ?_
        refine lv_iload hx hb dX7_bestSpot_21 (lv_at hl 4 rfl) ?_
        obtain ⟨x2, g3, hf⟩ := bn1_e hf
        refine w_ald hx hb hK hw 13 rfl g3 dX7_bestSpot_23 ?_
        refine lv_aload_n hx hb dX7_bestSpot_24 rfl (lv_at hl 0 rfl) ?_
        refine w_get hx hb hts hi7 hown hK hw 0 rfl rfl 40 (by decide) q2 rfl (v := .ref (o 14)) rfl dX7_bestSpot_25 ?_
        refine lv_iload hx hb dX7_bestSpot_28 (lv_at hl 4 rfl) ?_
        obtain ⟨x4, g5, hf⟩ := bn1_e hf
        refine w_ald hx hb hK hw 14 rfl g5 dX7_bestSpot_30 ?_
        refine lv_aload_n hx hb dX7_bestSpot_31 rfl (lv_at hl 0 rfl) ?_
        refine w_get hx hb hts hi7 hown hK hw 0 rfl rfl 41 (by decide) q3 rfl (v := .ref (o 15)) rfl dX7_bestSpot_32 ?_
        refine lv_iload hx hb dX7_bestSpot_35 (lv_at hl 4 rfl) ?_
        obtain ⟨x6, g7, hf⟩ := bn1_e hf
        refine w_ald hx hb hK hw 15 rfl g7 dX7_bestSpot_37 ?_
        obtain ⟨x8, g9, hf⟩ := bn1_e hf
        have fr := fr_X7_X7_oM o cA oM oM
        refine go_i (run_v (As := [.int x2, .int x4, .int x6]) (rest := []) ⟨hx, hb, hml, hown, hts⟩ (k_X7_supporters l D cA o oM x2 x4 x6 x8 g9 H.size) (cwV 3 hts gX7_bestSpot_X7_supporters rfl rfl rfl hd_X7_supporters ⟨Nat.le_of_ble_eq_true rfl, Nat.le_of_ble_eq_true rfl⟩) fr hw hK hA hZo hZ (ci := 7) rfl rfl rfl rfl hl.1 rfl (Nat.le_of_ble_eq_true rfl) dX7_bestSpot_38 ⟨Nat.zero_le _, Nat.zero_le _⟩) fr hw hA (fun H locs hw => ?_)
        refine lv_iload_n hx hb dX7_bestSpot_41 rfl (lv_at hl 1 rfl) ?_
        refine lv_iand hx hb dX7_bestSpot_42 ?_
        refine lv_istore (lv' := [(5, .int (x8 &&& v1)), (0, .ref (o 0)), (1, .int v1), (2, .int v2), (3, .int v3), (4, .int v4)]) hx hb dX7_bestSpot_43 hl (by decide) rfl (fun ls hl => ?_)
        refine lv_aload_n hx hb dX7_bestSpot_45 rfl (lv_at hl 1 rfl) ?_
        refine lv_aload_n hx hb dX7_bestSpot_46 rfl (lv_at hl 1 rfl) ?_
        refine w_get hx hb hts hi7 hown hK hw 0 rfl rfl 39 (by decide) q1 rfl (v := .ref (o 13)) rfl dX7_bestSpot_47 ?_
        refine lv_iload hx hb dX7_bestSpot_50 (lv_at hl 5 rfl) ?_
        obtain ⟨x10, g11, hf⟩ := bn1_e hf
        refine w_ald hx hb hK hw 13 rfl g11 dX7_bestSpot_52 ?_
        refine lv_aload_n hx hb dX7_bestSpot_53 rfl (lv_at hl 1 rfl) ?_
        refine w_get hx hb hts hi7 hown hK hw 0 rfl rfl 40 (by decide) q2 rfl (v := .ref (o 14)) rfl dX7_bestSpot_54 ?_
        refine lv_iload hx hb dX7_bestSpot_57 (lv_at hl 5 rfl) ?_
        obtain ⟨x12, g13, hf⟩ := bn1_e hf
        refine w_ald hx hb hK hw 14 rfl g13 dX7_bestSpot_59 ?_
        refine lv_iload hx hb dX7_bestSpot_60 (lv_at hl 0 rfl) ?_
        obtain ⟨x14, g15, hf⟩ := bn1_e hf
        have fr := fr_X7_X7_oM o cA oM oM
        refine go_i (run_v (As := [.int x10, .int x12, .int (x8 &&& v1)]) (rest := []) ⟨hx, hb, hml, hown, hts⟩ (k_X7_spanOf l D cA o oM x10 x12 (x8 &&& v1) x14 g15 H.size) (cwV 3 hts gX7_bestSpot_X7_spanOf rfl rfl rfl hd_X7_spanOf ⟨Nat.le_of_ble_eq_true rfl, Nat.le_of_ble_eq_true rfl⟩) fr hw hK hA hZo hZ (ci := 7) rfl rfl rfl rfl hl.1 rfl (Nat.le_of_ble_eq_true rfl) dX7_bestSpot_62 ⟨Nat.zero_le _, Nat.zero_le _⟩) fr hw hA (fun H locs hw => ?_)
        refine lv_istore (lv' := [(6, .int x14), (5, .int (x8 &&& v1)), (0, .ref (o 0)), (1, .int v1), (2, .int v2), (3, .int v3), (4, .int v4)]) hx hb dX7_bestSpot_65 hl (by decide) rfl (fun ls hl => ?_)
        refine lv_iload hx hb dX7_bestSpot_67 (lv_at hl 1 rfl) ?_
        obtain ⟨x16, g17, hf⟩ := bn1_e hf
        have fr := fr_X7_S o cA oM
        refine go_i (run_s (As := [.int (x8 &&& v1)]) (rest := []) ⟨hx, hb, hml, hown, hts⟩ (k_X7_size l D cA (x8 &&& v1) x16 g17 H.size) (va_cwS 1 hts gX7_bestSpot_X7_size rfl rfl rfl hd_X7_size ⟨Nat.le_of_ble_eq_true rfl, Nat.le_of_ble_eq_true rfl⟩) fr hw hK hA rfl hl.1 rfl (Nat.le_of_ble_eq_true rfl) dX7_bestSpot_69 ⟨Nat.zero_le _, Nat.zero_le _⟩) fr hw hA (fun H locs hw => ?_)
        refine lv_aload_n hx hb dX7_bestSpot_72 rfl (lv_at hl 2 rfl) ?_
        refine w_get hx hb hts hi7 hown hK hw 0 rfl rfl 9 (by decide) q4 rfl (v := .ref (o 5)) rfl dX7_bestSpot_73 ?_
        refine lv_iconst (v := 3) hx hb dX7_bestSpot_76 (by decide) ?_
        obtain ⟨x18, g19, hf⟩ := bn1_e hf
        refine w_ald hx hb hK hw 5 rfl g19 dX7_bestSpot_77 ?_
        refine lv_icmp_lt (tgt := 108) hx hb dX7_bestSpot_78 (by decide) (fun c20 => ?_) (fun c20 => ?_)
        · have hf := if_t c20 hf
          refine lv_iconst (v := 0) hx hb dX7_bestSpot_108 (by decide) ?_
          refine lv_istore (lv' := [(7, .int 0), (6, .int x14), (5, .int (x8 &&& v1)), (0, .ref (o 0)), (1, .int v1), (2, .int v2), (3, .int v3), (4, .int v4)]) hx hb dX7_bestSpot_109 hl (by decide) rfl (fun ls hl => ?_)
          refine lv_iload hx hb dX7_bestSpot_111 (lv_at hl 0 rfl) ?_
          refine lv_if_eq (tgt := 121) hx hb dX7_bestSpot_113 (by decide) (fun c21 => ?_) (fun c21 => ?_)
          rotate_left
          · exact absurd c21 (by decide)
          refine lv_iload_n hx hb dX7_bestSpot_121 rfl (lv_at hl 5 rfl) ?_
          refine lv_istore_n (lv' := [(2, .int v2), (7, .int 0), (6, .int x14), (5, .int (x8 &&& v1)), (0, .ref (o 0)), (1, .int v1), (3, .int v3), (4, .int v4)]) hx hb dX7_bestSpot_122 rfl hl (by decide) rfl (fun ls hl => ?_)
          refine lv_iload hx hb dX7_bestSpot_123 (lv_at hl 1 rfl) ?_
          refine lv_if_eq (tgt := 139) hx hb dX7_bestSpot_125 (by decide) (fun c22 => ?_) (fun c22 => ?_)
          rotate_left
          · exact absurd c22 (by decide)
          refine lv_iload_n hx hb dX7_bestSpot_139 rfl (lv_at hl 6 rfl) ?_
          refine lv_istore_n (lv' := [(3, .int v3), (2, .int v2), (7, .int 0), (6, .int x14), (5, .int (x8 &&& v1)), (0, .ref (o 0)), (1, .int v1), (4, .int v4)]) hx hb dX7_bestSpot_140 rfl hl (by decide) rfl (fun ls hl => ?_)
          refine lv_iinc (v := v4 + 1) (lv' := [(4, .int (v4 + 1)), (3, .int v3), (2, .int v2), (7, .int 0), (6, .int x14), (5, .int (x8 &&& v1)), (0, .ref (o 0)), (1, .int v1)]) hx hb dX7_bestSpot_141 hl (k := 7) rfl (by rfl) (by decide) rfl (fun ls hl => ?_)
          refine lv_goto (tgt := 7) hx hb dX7_bestSpot_144 (by decide) ?_
          exact ih v2 v3 (v4 + 1) hf H locs ls hw (lv_sub hl [6, 7, 2, 1, 0] rfl)
        · have hf := if_f c20 hf
          refine lv_iload hx hb dX7_bestSpot_81 (lv_at hl 0 rfl) ?_
          refine lv_aload_n hx hb dX7_bestSpot_83 rfl (lv_at hl 2 rfl) ?_
          refine w_get hx hb hts hi7 hown hK hw 0 rfl rfl 9 (by decide) q4 rfl (v := .ref (o 5)) rfl dX7_bestSpot_84 ?_
          refine lv_iconst (v := 4) hx hb dX7_bestSpot_87 (by decide) ?_
          obtain ⟨x23, g24, hf⟩ := bn1_e hf
          refine w_ald hx hb hK hw 5 rfl g24 dX7_bestSpot_88 ?_
          refine lv_icmp_lt (tgt := 108) hx hb dX7_bestSpot_89 (by decide) (fun c25 => ?_) (fun c25 => ?_)
          · have hf := if_t c25 hf
            refine lv_iconst (v := 0) hx hb dX7_bestSpot_108 (by decide) ?_
            refine lv_istore (lv' := [(7, .int 0), (6, .int x14), (5, .int (x8 &&& v1)), (0, .ref (o 0)), (1, .int v1), (2, .int v2), (3, .int v3), (4, .int v4)]) hx hb dX7_bestSpot_109 hl (by decide) rfl (fun ls hl => ?_)
            refine lv_iload hx hb dX7_bestSpot_111 (lv_at hl 0 rfl) ?_
            refine lv_if_eq (tgt := 121) hx hb dX7_bestSpot_113 (by decide) (fun c26 => ?_) (fun c26 => ?_)
            rotate_left
            · exact absurd c26 (by decide)
            refine lv_iload_n hx hb dX7_bestSpot_121 rfl (lv_at hl 5 rfl) ?_
            refine lv_istore_n (lv' := [(2, .int v2), (7, .int 0), (6, .int x14), (5, .int (x8 &&& v1)), (0, .ref (o 0)), (1, .int v1), (3, .int v3), (4, .int v4)]) hx hb dX7_bestSpot_122 rfl hl (by decide) rfl (fun ls hl => ?_)
            refine lv_iload hx hb dX7_bestSpot_123 (lv_at hl 1 rfl) ?_
            refine lv_if_eq (tgt := 139) hx hb dX7_bestSpot_125 (by decide) (fun c27 => ?_) (fun c27 => ?_)
            rotate_left
            · exact absurd c27 (by decide)
            refine lv_iload_n hx hb dX7_bestSpot_139 rfl (lv_at hl 6 rfl) ?_
            refine lv_istore_n (lv' := [(3, .int v3), (2, .int v2), (7, .int 0), (6, .int x14), (5, .int (x8 &&& v1)), (0, .ref (o 0)), (1, .int v1), (4, .int v4)]) hx hb dX7_bestSpot_140 rfl hl (by decide) rfl (fun ls hl => ?_)
            refine lv_iinc (v := v4 + 1) (lv' := [(4, .int (v4 + 1)), (3, .int v3), (2, .int v2), (7, .int 0), (6, .int x14), (5, .int (x8 &&& v1)), (0, .ref (o 0)), (1, .int v1)]) hx hb dX7_bestSpot_141 hl (k := 7) rfl (by rfl) (by decide) rfl (fun ls hl => ?_)
            refine lv_goto (tgt := 7) hx hb dX7_bestSpot_144 (by decide) ?_
            exact ih v2 v3 (v4 + 1) hf H locs ls hw (lv_sub hl [6, 7, 2, 1, 0] rfl)
          · have hf := if_f c25 hf
            refine lv_iload hx hb dX7_bestSpot_92 (lv_at hl 1 rfl) ?_
            obtain ⟨x28, g29, hf⟩ := bn1_e hf
            have fr := fr_X7_S o cA oM
            refine go_i (run_s (As := [.int (x8 &&& v1)]) (rest := []) ⟨hx, hb, hml, hown, hts⟩ (k_X7_size l D cA (x8 &&& v1) x28 g29 H.size) (va_cwS 1 hts gX7_bestSpot_X7_size rfl rfl rfl hd_X7_size ⟨Nat.le_of_ble_eq_true rfl, Nat.le_of_ble_eq_true rfl⟩) fr hw hK hA rfl hl.1 rfl (Nat.le_of_ble_eq_true rfl) dX7_bestSpot_94 ⟨Nat.zero_le _, Nat.zero_le _⟩) fr hw hA (fun H locs hw => ?_)
            refine lv_iload hx hb dX7_bestSpot_97 (lv_at hl 0 rfl) ?_
            refine lv_imul hx hb dX7_bestSpot_99 ?_
            refine lv_iload_n hx hb dX7_bestSpot_100 rfl (lv_at hl 5 rfl) ?_
            refine lv_icmp_le (tgt := 108) hx hb dX7_bestSpot_101 (by decide) (fun c30 => ?_) (fun c30 => ?_)
            · have hf := if_t c30 hf
              refine lv_iconst (v := 0) hx hb dX7_bestSpot_108 (by decide) ?_
              refine lv_istore (lv' := [(7, .int 0), (6, .int x14), (5, .int (x8 &&& v1)), (0, .ref (o 0)), (1, .int v1), (2, .int v2), (3, .int v3), (4, .int v4)]) hx hb dX7_bestSpot_109 hl (by decide) rfl (fun ls hl => ?_)
              refine lv_iload hx hb dX7_bestSpot_111 (lv_at hl 0 rfl) ?_
              refine lv_if_eq (tgt := 121) hx hb dX7_bestSpot_113 (by decide) (fun c31 => ?_) (fun c31 => ?_)
              rotate_left
              · exact absurd c31 (by decide)
              refine lv_iload_n hx hb dX7_bestSpot_121 rfl (lv_at hl 5 rfl) ?_
              refine lv_istore_n (lv' := [(2, .int v2), (7, .int 0), (6, .int x14), (5, .int (x8 &&& v1)), (0, .ref (o 0)), (1, .int v1), (3, .int v3), (4, .int v4)]) hx hb dX7_bestSpot_122 rfl hl (by decide) rfl (fun ls hl => ?_)
              refine lv_iload hx hb dX7_bestSpot_123 (lv_at hl 1 rfl) ?_
              refine lv_if_eq (tgt := 139) hx hb dX7_bestSpot_125 (by decide) (fun c32 => ?_) (fun c32 => ?_)
              rotate_left
              · exact absurd c32 (by decide)
              refine lv_iload_n hx hb dX7_bestSpot_139 rfl (lv_at hl 6 rfl) ?_
              refine lv_istore_n (lv' := [(3, .int v3), (2, .int v2), (7, .int 0), (6, .int x14), (5, .int (x8 &&& v1)), (0, .ref (o 0)), (1, .int v1), (4, .int v4)]) hx hb dX7_bestSpot_140 rfl hl (by decide) rfl (fun ls hl => ?_)
              refine lv_iinc (v := v4 + 1) (lv' := [(4, .int (v4 + 1)), (3, .int v3), (2, .int v2), (7, .int 0), (6, .int x14), (5, .int (x8 &&& v1)), (0, .ref (o 0)), (1, .int v1)]) hx hb dX7_bestSpot_141 hl (k := 7) rfl (by rfl) (by decide) rfl (fun ls hl => ?_)
              refine lv_goto (tgt := 7) hx hb dX7_bestSpot_144 (by decide) ?_
              exact ih v2 v3 (v4 + 1) hf H locs ls hw (lv_sub hl [6, 7, 2, 1, 0] rfl)
            · have hf := if_f c30 hf
              refine lv_iconst (v := 1) hx hb dX7_bestSpot_104 (by decide) ?_
              refine lv_goto (tgt := 109) hx hb dX7_bestSpot_105 (by decide) ?_
              refine lv_istore (lv' := [(7, .int 1), (6, .int x14), (5, .int (x8 &&& v1)), (0, .ref (o 0)), (1, .int v1), (2, .int v2), (3, .int v3), (4, .int v4)]) hx hb dX7_bestSpot_109 hl (by decide) rfl (fun ls hl => ?_)
              refine lv_iload hx hb dX7_bestSpot_111 (lv_at hl 0 rfl) ?_
              refine lv_if_eq (tgt := 121) hx hb dX7_bestSpot_113 (by decide) (fun c33 => ?_) (fun c33 => ?_)
              · exact absurd c33 (by decide)
              refine lv_iload hx hb dX7_bestSpot_116 (lv_at hl 7 rfl) ?_
              refine lv_goto (tgt := 122) hx hb dX7_bestSpot_118 (by decide) ?_
              refine lv_istore_n (lv' := [(2, .int v4), (7, .int 1), (6, .int x14), (5, .int (x8 &&& v1)), (0, .ref (o 0)), (1, .int v1), (3, .int v3), (4, .int v4)]) hx hb dX7_bestSpot_122 rfl hl (by decide) rfl (fun ls hl => ?_)
              refine lv_iload hx hb dX7_bestSpot_123 (lv_at hl 1 rfl) ?_
              refine lv_if_eq (tgt := 139) hx hb dX7_bestSpot_125 (by decide) (fun c34 => ?_) (fun c34 => ?_)
              · exact absurd c34 (by decide)
              refine lv_iload hx hb dX7_bestSpot_128 (lv_at hl 3 rfl) ?_
              obtain ⟨x35, g36, hf⟩ := bn1_e hf
              have fr := fr_X7_S o cA oM
              refine go_i (run_s (As := [.int (x8 &&& v1)]) (rest := []) ⟨hx, hb, hml, hown, hts⟩ (k_X7_size l D cA (x8 &&& v1) x35 g36 H.size) (va_cwS 1 hts gX7_bestSpot_X7_size rfl rfl rfl hd_X7_size ⟨Nat.le_of_ble_eq_true rfl, Nat.le_of_ble_eq_true rfl⟩) fr hw hK hA rfl hl.1 rfl (Nat.le_of_ble_eq_true rfl) dX7_bestSpot_130 ⟨Nat.zero_le _, Nat.zero_le _⟩) fr hw hA (fun H locs hw => ?_)
              refine lv_iload hx hb dX7_bestSpot_133 (lv_at hl 2 rfl) ?_
              refine lv_imul hx hb dX7_bestSpot_135 ?_
              refine lv_goto (tgt := 140) hx hb dX7_bestSpot_136 (by decide) ?_
              refine lv_istore_n (lv' := [(3, .int (x35 * x14)), (2, .int v4), (7, .int 1), (6, .int x14), (5, .int (x8 &&& v1)), (0, .ref (o 0)), (1, .int v1), (4, .int v4)]) hx hb dX7_bestSpot_140 rfl hl (by decide) rfl (fun ls hl => ?_)
              refine lv_iinc (v := v4 + 1) (lv' := [(4, .int (v4 + 1)), (3, .int (x35 * x14)), (2, .int v4), (7, .int 1), (6, .int x14), (5, .int (x8 &&& v1)), (0, .ref (o 0)), (1, .int v1)]) hx hb dX7_bestSpot_141 hl (k := 7) rfl (by rfl) (by decide) rfl (fun ls hl => ?_)
              refine lv_goto (tgt := 7) hx hb dX7_bestSpot_144 (by decide) ?_
              exact ih v4 (x35 * x14) (v4 + 1) hf H locs ls hw (lv_sub hl [6, 7, 2, 1, 0] rfl)
  unfold f_X7_bestSpot at hf
  obtain ⟨H, hH⟩ : ∃ H, H = s.heap := ⟨_, rfl⟩
  obtain ⟨locs, hlc⟩ : ∃ locs : List Loc, locs = [] := ⟨_, rfl⟩
  have hw : Wd D A s.heap H locs (wX7 o cA oM) := by rw [hH, hlc]; exact hw
  have goal : W p l e rmX7_bestSpot s m ([.ref (o 0), .int a1] : List Value).toArray below meth c H locs 0 0 Q (F0 m 0 ls []) := by
    clear hH hlc
    refine lv_iconst (v := (-1)) hx hb dX7_bestSpot_0 (by decide) ?_
    refine lv_istore_n (lv' := [(2, .int ((-1))), (0, .ref (o 0)), (1, .int a1)]) hx hb dX7_bestSpot_1 rfl hl (by decide) rfl (fun ls hl => ?_)
    refine lv_iconst (v := 0) hx hb dX7_bestSpot_2 (by decide) ?_
    refine lv_istore_n (lv' := [(3, .int 0), (2, .int ((-1))), (0, .ref (o 0)), (1, .int a1)]) hx hb dX7_bestSpot_3 rfl hl (by decide) rfl (fun ls hl => ?_)
    refine lv_iconst (v := 0) hx hb dX7_bestSpot_4 (by decide) ?_
    refine lv_istore (lv' := [(4, .int 0), (3, .int 0), (2, .int ((-1))), (0, .ref (o 0)), (1, .int a1)]) hx hb dX7_bestSpot_5 hl (by decide) rfl (fun ls hl => ?_)
    exact h_L7 a1 _ ((-1)) 0 0 hf H locs ls hw (lv_sub hl [3, 4, 2, 1, 0] rfl)
  rw [hH, hlc] at goal
  exact goal
abbrev rmX7_huntNow : Room := { frames := 6, cells := 0, slots := 0, locals := 149 }
theorem hd_X7_huntNow : yX7_huntNow.cls = RX7 ∧ yX7_huntNow.cls ≠ "java/lang/invoke/MethodHandle" ∧ yX7_huntNow.cls ≠ "java/lang/invoke/VarHandle" ∧ (parseMethodDescriptor yX7_huntNow.desc).map (fun d => d.parameters.length) = some 0 := by decide +kernel
set_option maxHeartbeats 4000000 in
set_option maxRecDepth 100000 in
theorem k_X7_huntNow (l : Launch) (D : va_G) (cA : ClassId) (o : Nat → Nat) (oM : St) (r : Int32) (oM' : St) (hf : f_X7_huntNow oM = some (r, oM')) : Mi l yX7_huntNow wsX7_huntNow rmX7_huntNow D cA z_0 [.ref (o 0)] (wX7 o cA oM) r (wX7 o cA oM') := by
  refine Mi.of (cc := cX7_huntNow) (maxL := 5) (ret := (some .int)) (plainFor_of_name (by decide)) rfl (Nat.le_of_ble_eq_true rfl) (Or.inl rfl) ?_
  intro p e s m below meth c A Q hx hb hml hown hts hK hA hZ hret ls hl hw
  replace hown : s.vm.findClass RX7 = some m.cls := hown
  have hl : lv_has ls 5 [(0, .ref (o 0))] := hl
  have hZo := z_0_ok
  have hi7 : ∀ w ∈ wsX70, w ∈ wsX7_huntNow := fun w h => List.mem_cons_of_mem _ (List.mem_append_right _ h)
  have q0 := hts (.fieldLink RX7 319 "ArcRingsModel" "rings" "I") (by decide +kernel)
  have q1 := hts (.fieldLink RX7 322 "ArcRingsModel" "hunts" "I") (by decide +kernel)
  have q2 := hts (.fieldLink RX7 124 "ArcRingsModel" "isHunted" "Z") (by decide +kernel)
  have q3 := hts (.fieldLink RX7 121 "ArcRingsModel" "dots" "I") (by decide +kernel)
  have q4 := hts (.fieldLink RX7 34 "ArcRingsModel" "ownRing" "[I") (by decide +kernel)
  have q5 := hts (.fieldLink RX7 46 "ArcRingsModel" "spotX" "[I") (by decide +kernel)
  have q6 := hts (.fieldLink RX7 49 "ArcRingsModel" "spotY" "[I") (by decide +kernel)
  have q7 := hts (.fieldLink RX7 52 "ArcRingsModel" "spotR" "[I") (by decide +kernel)
  have q8 := hts (.fieldLink RX7 25 "ArcRingsModel" "ringX" "[I") (by decide +kernel)
  have q9 := hts (.fieldLink RX7 28 "ArcRingsModel" "ringY" "[I") (by decide +kernel)
  have q10 := hts (.fieldLink RX7 31 "ArcRingsModel" "ringR" "[I") (by decide +kernel)
  have h_L35 : ∀ (v1 : Int32) (K : St → Option (Int32 × St)), (∀ (z0 : St), K z0 = some (r, oM') → ∀ (H : Heap) (locs : List Loc) (ls : Array Slot), Wd D A s.heap H locs (wX7 o cA z0) → lv_has ls 5 [(0, .ref (o 0)), (1, .int v1)] → W p l e rmX7_huntNow s m ([.ref (o 0)] : List Value).toArray below meth c H locs 0 0 Q (F0 m 56 ls [])) → ∀ (n : Nat) (v2 : Int32) (oM : St), f_X7_huntNow_L35 v1 K n v2 oM = some (r, oM') → ∀ (H : Heap) (locs : List Loc) (ls : Array Slot), Wd D A s.heap H locs (wX7 o cA oM) → lv_has ls 5 [(0, .ref (o 0)), (1, .int v1), (2, .int v2)] → W p l e rmX7_huntNow s m ([.ref (o 0)] : List Value).toArray below meth c H locs 0 0 Q (F0 m 35 ls []) := by
    intro v1 K hK9 n
    induction n with
    | zero =>
      intro v2 oM hf
      have hf : none = some (r, oM') := hf
      cases hf
    | succ n ih =>
      intro v2 oM hf H locs ls hw hl
      have hf := (f_X7_huntNow_L35_s v1 K n v2 oM).symm.trans hf
      refine lv_iload_n hx hb dX7_huntNow_35 rfl (lv_at hl 2 rfl) ?_
      refine lv_aload_n hx hb dX7_huntNow_36 rfl (lv_at hl 0 rfl) ?_
      refine w_get hx hb hts hi7 hown hK hw 0 rfl rfl 5 (by decide) q3 rfl (v := .int (oM.1 5)) rfl dX7_huntNow_37 ?_
      refine lv_icmp_ge (tgt := 56) hx hb dX7_huntNow_40 (by decide) (fun c5 => ?_) (fun c5 => ?_)
      · have hf := if_t c5 hf
        exact hK9 oM hf H locs ls hw (lv_sub hl [0, 1] rfl)
      · have hf := if_f c5 hf
        refine lv_aload_n hx hb dX7_huntNow_43 rfl (lv_at hl 0 rfl) ?_
        refine w_get hx hb hts hi7 hown hK hw 0 rfl rfl 15 (by decide) q4 rfl (v := .ref (o 9)) rfl dX7_huntNow_44 ?_
        refine lv_iload_n hx hb dX7_huntNow_47 rfl (lv_at hl 2 rfl) ?_
        refine lv_iconst (v := (-1)) hx hb dX7_huntNow_48 (by decide) ?_
        obtain ⟨oM7, g6, hf⟩ := bn1_e hf
        refine w_aws hx hb hK hw 9 rfl g6 (fun z => (wX7 o cA z)) (fun _ => rfl) dX7_huntNow_49 (fun H locs hw => ?_)
        refine lv_iinc (v := v2 + 1) (lv' := [(2, .int (v2 + 1)), (0, .ref (o 0)), (1, .int v1)]) hx hb dX7_huntNow_50 hl (k := 2) rfl (by rfl) (by decide) rfl (fun ls hl => ?_)
        refine lv_goto (tgt := 35) hx hb dX7_huntNow_53 (by decide) ?_
        exact ih (v2 + 1) oM7 hf H locs ls hw (lv_sub hl [1, 2, 0] rfl)
  have h_L140 : ∀ (v1 : Int32) (v3 : Int32) (K : St → Option (Int32 × St)), (∀ (z0 : St), K z0 = some (r, oM') → ∀ (H : Heap) (locs : List Loc) (ls : Array Slot), Wd D A s.heap H locs (wX7 o cA z0) → lv_has ls 5 [(0, .ref (o 0)), (1, .int v1), (3, .int v3)] → W p l e rmX7_huntNow s m ([.ref (o 0)] : List Value).toArray below meth c H locs 0 0 Q (F0 m 186 ls [])) → ∀ (n : Nat) (v4 : Int32) (oM : St), f_X7_huntNow_L140 v1 v3 K n v4 oM = some (r, oM') → ∀ (H : Heap) (locs : List Loc) (ls : Array Slot), Wd D A s.heap H locs (wX7 o cA oM) → lv_has ls 5 [(0, .ref (o 0)), (1, .int v1), (3, .int v3), (4, .int v4)] → W p l e rmX7_huntNow s m ([.ref (o 0)] : List Value).toArray below meth c H locs 0 0 Q (F0 m 140 ls []) := by
    intro v1 v3 K hK9 n
    induction n with
    | zero =>
      intro v4 oM hf
      have hf : none = some (r, oM') := hf
      cases hf
    | succ n ih =>
      intro v4 oM hf H locs ls hw hl
      have hf := (f_X7_huntNow_L140_s v1 v3 K n v4 oM).symm.trans hf
      refine lv_iload hx hb dX7_huntNow_140 (lv_at hl 3 rfl) ?_
      refine lv_aload_n hx hb dX7_huntNow_142 rfl (lv_at hl 0 rfl) ?_
      refine w_get hx hb hts hi7 hown hK hw 0 rfl rfl 5 (by decide) q3 rfl (v := .int (oM.1 5)) rfl dX7_huntNow_143 ?_
      refine lv_icmp_ge (tgt := 186) hx hb dX7_huntNow_146 (by decide) (fun c32 => ?_) (fun c32 => ?_)
      · have hf := if_t c32 hf
        exact hK9 oM hf H locs ls hw (lv_sub hl [0, 1, 2] rfl)
      · have hf := if_f c32 hf
        refine lv_aload_n hx hb dX7_huntNow_149 rfl (lv_at hl 0 rfl) ?_
        refine w_get hx hb hts hi7 hown hK hw 0 rfl rfl 15 (by decide) q4 rfl (v := .ref (o 9)) rfl dX7_huntNow_150 ?_
        refine lv_iload hx hb dX7_huntNow_153 (lv_at hl 3 rfl) ?_
        refine lv_iload_n hx hb dX7_huntNow_155 rfl (lv_at hl 2 rfl) ?_
        refine lv_iload hx hb dX7_huntNow_156 (lv_at hl 3 rfl) ?_
        refine lv_ishr hx hb dX7_huntNow_158 ?_
        refine lv_iconst (v := 1) hx hb dX7_huntNow_159 (by decide) ?_
        refine lv_iand hx hb dX7_huntNow_160 ?_
        refine lv_iconst (v := 1) hx hb dX7_huntNow_161 (by decide) ?_
        refine lv_icmp_ne (tgt := 172) hx hb dX7_huntNow_162 (by decide) (fun c33 => ?_) (fun c33 => ?_)
        · have hf := if_f c33 hf
          refine lv_aload_n hx hb dX7_huntNow_172 rfl (lv_at hl 0 rfl) ?_
          refine w_get hx hb hts hi7 hown hK hw 0 rfl rfl 15 (by decide) q4 rfl (v := .ref (o 9)) rfl dX7_huntNow_173 ?_
          refine lv_iload hx hb dX7_huntNow_176 (lv_at hl 3 rfl) ?_
          obtain ⟨x34, g35, hf⟩ := bn1_e hf
          refine w_ald hx hb hK hw 9 rfl g35 dX7_huntNow_178 ?_
          obtain ⟨oM37, g36, hf⟩ := bn1_e hf
          refine w_aws hx hb hK hw 9 rfl g36 (fun z => (wX7 o cA z)) (fun _ => rfl) dX7_huntNow_179 (fun H locs hw => ?_)
          refine lv_iinc (v := v4 + 1) (lv' := [(4, .int (v4 + 1)), (0, .ref (o 0)), (1, .int v1), (3, .int v3)]) hx hb dX7_huntNow_180 hl (k := 3) rfl (by rfl) (by decide) rfl (fun ls hl => ?_)
          refine lv_goto (tgt := 140) hx hb dX7_huntNow_183 (by decide) ?_
          exact ih (v4 + 1) oM37 hf H locs ls hw (lv_sub hl [1, 2, 3, 0] rfl)
        · have hf := if_t c33 hf
          refine lv_aload_n hx hb dX7_huntNow_165 rfl (lv_at hl 0 rfl) ?_
          refine w_get hx hb hts hi7 hown hK hw 0 rfl rfl 11 (by decide) q0 rfl (v := .int (oM.1 11)) rfl dX7_huntNow_166 ?_
          refine lv_goto (tgt := 179) hx hb dX7_huntNow_169 (by decide) ?_
          obtain ⟨oM39, g38, hf⟩ := bn1_e hf
          refine w_aws hx hb hK hw 9 rfl g38 (fun z => (wX7 o cA z)) (fun _ => rfl) dX7_huntNow_179 (fun H locs hw => ?_)
          refine lv_iinc (v := v4 + 1) (lv' := [(4, .int (v4 + 1)), (0, .ref (o 0)), (1, .int v1), (3, .int v3)]) hx hb dX7_huntNow_180 hl (k := 3) rfl (by rfl) (by decide) rfl (fun ls hl => ?_)
          refine lv_goto (tgt := 140) hx hb dX7_huntNow_183 (by decide) ?_
          exact ih (v4 + 1) oM39 hf H locs ls hw (lv_sub hl [1, 2, 3, 0] rfl)
  have h_L62 : ∀ (n : Nat) (v1 : Int32) (v2 : Int32) (oM : St), f_X7_huntNow_L62  n v1 v2 oM = some (r, oM') → ∀ (H : Heap) (locs : List Loc) (ls : Array Slot), Wd D A s.heap H locs (wX7 o cA oM) → lv_has ls 5 [(0, .ref (o 0)), (1, .int v1), (2, .int v2)] → W p l e rmX7_huntNow s m ([.ref (o 0)] : List Value).toArray below meth c H locs 0 0 Q (F0 m 62 ls []) := by
    intro n
    induction n with
    | zero =>
      intro v1 v2 oM hf
      have hf : none = some (r, oM') := hf
      cases hf
    | succ n ih =>
      intro v1 v2 oM hf H locs ls hw hl
      have hf := (f_X7_huntNow_L62_s  n v1 v2 oM).symm.trans hf
      refine lv_iload_n hx hb dX7_huntNow_62 rfl (lv_at hl 2 rfl) ?_
      refine lv_iconst (v := (-1)) hx hb dX7_huntNow_63 (by decide) ?_
      refine lv_icmp_eq (tgt := 211) hx hb dX7_huntNow_64 (by decide) (fun c11 => ?_) (fun c11 => ?_)
      · have hf := if_t c11 hf
        refine lv_aload_n hx hb dX7_huntNow_211 rfl (lv_at hl 0 rfl) ?_
        refine w_get hx hb hts hi7 hown hK hw 0 rfl rfl 11 (by decide) q0 rfl (v := .int (oM.1 11)) rfl dX7_huntNow_212 ?_
        obtain ⟨e0_, e1_⟩ := sm2 hf
        exact hret _ _ _ _ _ (by rw [← e1_]; exact hw) e0_ (Or.inl rfl) dX7_huntNow_215
      · have hf := if_f c11 hf
        refine lv_aload_n hx hb dX7_huntNow_67 rfl (lv_at hl 0 rfl) ?_
        refine lv_aload_n hx hb dX7_huntNow_68 rfl (lv_at hl 0 rfl) ?_
        refine w_get hx hb hts hi7 hown hK hw 0 rfl rfl 39 (by decide) q5 rfl (v := .ref (o 13)) rfl dX7_huntNow_69 ?_
        refine lv_iload_n hx hb dX7_huntNow_72 rfl (lv_at hl 2 rfl) ?_
        obtain ⟨x12, g13, hf⟩ := bn1_e hf
        refine w_ald hx hb hK hw 13 rfl g13 dX7_huntNow_73 ?_
        refine lv_aload_n hx hb dX7_huntNow_74 rfl (lv_at hl 0 rfl) ?_
        refine w_get hx hb hts hi7 hown hK hw 0 rfl rfl 40 (by decide) q6 rfl (v := .ref (o 14)) rfl dX7_huntNow_75 ?_
        refine lv_iload_n hx hb dX7_huntNow_78 rfl (lv_at hl 2 rfl) ?_
        obtain ⟨x14, g15, hf⟩ := bn1_e hf
        refine w_ald hx hb hK hw 14 rfl g15 dX7_huntNow_79 ?_
        refine lv_aload_n hx hb dX7_huntNow_80 rfl (lv_at hl 0 rfl) ?_
        refine w_get hx hb hts hi7 hown hK hw 0 rfl rfl 41 (by decide) q7 rfl (v := .ref (o 15)) rfl dX7_huntNow_81 ?_
        refine lv_iload_n hx hb dX7_huntNow_84 rfl (lv_at hl 2 rfl) ?_
        obtain ⟨x16, g17, hf⟩ := bn1_e hf
        refine w_ald hx hb hK hw 15 rfl g17 dX7_huntNow_85 ?_
        obtain ⟨x18, g19, hf⟩ := bn1_e hf
        have fr := fr_X7_X7_oM o cA oM oM
        refine go_i (run_v (As := [.int x12, .int x14, .int x16]) (rest := []) ⟨hx, hb, hml, hown, hts⟩ (k_X7_supporters l D cA o oM x12 x14 x16 x18 g19 H.size) (cwV 3 hts gX7_huntNow_X7_supporters rfl rfl rfl hd_X7_supporters ⟨Nat.le_of_ble_eq_true rfl, Nat.le_of_ble_eq_true rfl⟩) fr hw hK hA hZo hZ (ci := 7) rfl rfl rfl rfl hl.1 rfl (Nat.le_of_ble_eq_true rfl) dX7_huntNow_86 ⟨Nat.zero_le _, Nat.zero_le _⟩) fr hw hA (fun H locs hw => ?_)
        refine lv_iload_n hx hb dX7_huntNow_89 rfl (lv_at hl 1 rfl) ?_
        refine lv_iand hx hb dX7_huntNow_90 ?_
        refine lv_istore_n (lv' := [(3, .int (x18 &&& v1)), (0, .ref (o 0)), (1, .int v1), (2, .int v2)]) hx hb dX7_huntNow_91 rfl hl (by decide) rfl (fun ls hl => ?_)
        refine lv_aload_n hx hb dX7_huntNow_92 rfl (lv_at hl 1 rfl) ?_
        refine w_get hx hb hts hi7 hown hK hw 0 rfl rfl 12 (by decide) q8 rfl (v := .ref (o 6)) rfl dX7_huntNow_93 ?_
        refine lv_aload_n hx hb dX7_huntNow_96 rfl (lv_at hl 1 rfl) ?_
        refine w_get hx hb hts hi7 hown hK hw 0 rfl rfl 11 (by decide) q0 rfl (v := .int (oM.1 11)) rfl dX7_huntNow_97 ?_
        refine lv_aload_n hx hb dX7_huntNow_100 rfl (lv_at hl 1 rfl) ?_
        refine w_get hx hb hts hi7 hown hK hw 0 rfl rfl 39 (by decide) q5 rfl (v := .ref (o 13)) rfl dX7_huntNow_101 ?_
        refine lv_iload_n hx hb dX7_huntNow_104 rfl (lv_at hl 3 rfl) ?_
        obtain ⟨x20, g21, hf⟩ := bn1_e hf
        refine w_ald hx hb hK hw 13 rfl g21 dX7_huntNow_105 ?_
        obtain ⟨oM23, g22, hf⟩ := bn1_e hf
        refine w_aws hx hb hK hw 6 rfl g22 (fun z => (wX7 o cA z)) (fun _ => rfl) dX7_huntNow_106 (fun H locs hw => ?_)
        refine lv_aload_n hx hb dX7_huntNow_107 rfl (lv_at hl 1 rfl) ?_
        refine w_get hx hb hts hi7 hown hK hw 0 rfl rfl 13 (by decide) q9 rfl (v := .ref (o 7)) rfl dX7_huntNow_108 ?_
        refine lv_aload_n hx hb dX7_huntNow_111 rfl (lv_at hl 1 rfl) ?_
        refine w_get hx hb hts hi7 hown hK hw 0 rfl rfl 11 (by decide) q0 rfl (v := .int (oM23.1 11)) rfl dX7_huntNow_112 ?_
        refine lv_aload_n hx hb dX7_huntNow_115 rfl (lv_at hl 1 rfl) ?_
        refine w_get hx hb hts hi7 hown hK hw 0 rfl rfl 40 (by decide) q6 rfl (v := .ref (o 14)) rfl dX7_huntNow_116 ?_
        refine lv_iload_n hx hb dX7_huntNow_119 rfl (lv_at hl 3 rfl) ?_
        obtain ⟨x24, g25, hf⟩ := bn1_e hf
        refine w_ald hx hb hK hw 14 rfl g25 dX7_huntNow_120 ?_
        obtain ⟨oM27, g26, hf⟩ := bn1_e hf
        refine w_aws hx hb hK hw 7 rfl g26 (fun z => (wX7 o cA z)) (fun _ => rfl) dX7_huntNow_121 (fun H locs hw => ?_)
        refine lv_aload_n hx hb dX7_huntNow_122 rfl (lv_at hl 1 rfl) ?_
        refine w_get hx hb hts hi7 hown hK hw 0 rfl rfl 14 (by decide) q10 rfl (v := .ref (o 8)) rfl dX7_huntNow_123 ?_
        refine lv_aload_n hx hb dX7_huntNow_126 rfl (lv_at hl 1 rfl) ?_
        refine w_get hx hb hts hi7 hown hK hw 0 rfl rfl 11 (by decide) q0 rfl (v := .int (oM27.1 11)) rfl dX7_huntNow_127 ?_
        refine lv_aload_n hx hb dX7_huntNow_130 rfl (lv_at hl 1 rfl) ?_
        refine w_get hx hb hts hi7 hown hK hw 0 rfl rfl 41 (by decide) q7 rfl (v := .ref (o 15)) rfl dX7_huntNow_131 ?_
        refine lv_iload_n hx hb dX7_huntNow_134 rfl (lv_at hl 3 rfl) ?_
        obtain ⟨x28, g29, hf⟩ := bn1_e hf
        refine w_ald hx hb hK hw 15 rfl g29 dX7_huntNow_135 ?_
        obtain ⟨oM31, g30, hf⟩ := bn1_e hf
        refine w_aws hx hb hK hw 8 rfl g30 (fun z => (wX7 o cA z)) (fun _ => rfl) dX7_huntNow_136 (fun H locs hw => ?_)
        refine lv_iconst (v := 0) hx hb dX7_huntNow_137 (by decide) ?_
        refine lv_istore (lv' := [(4, .int 0), (3, .int (x18 &&& v1)), (0, .ref (o 0)), (1, .int v1), (2, .int v2)]) hx hb dX7_huntNow_138 hl (by decide) rfl (fun ls hl => ?_)
        refine h_L140 v1 (x18 &&& v1) _ ?_ _ 0 oM31 hf H locs ls hw (lv_sub hl [2, 3, 1, 0] rfl)
        intro oM40 hf H locs ls hw hl
        refine lv_aload_n hx hb dX7_huntNow_186 rfl (lv_at hl 0 rfl) ?_
        refine lv_dup hx hb dX7_huntNow_187 rfl ?_
        refine w_get hx hb hts hi7 hown hK hw 0 rfl rfl 11 (by decide) q0 rfl (v := .int (oM40.1 11)) rfl dX7_huntNow_188 ?_
        refine lv_iconst (v := 1) hx hb dX7_huntNow_191 (by decide) ?_
        refine lv_iadd hx hb dX7_huntNow_192 ?_
        refine w_put (ws' := (wX7 o cA ((sI oM40 11 ((oM40.1 11) + 1))))) hx hb hts hi7 tyX7 tyX7_ok nmX7 hown hK hw 0 rfl rfl 11 (by decide) q0 rfl rfl rfl rfl (Nat.le_of_ble_eq_true rfl) rfl dX7_huntNow_193 (fun H locs hw => ?_)
        refine lv_iload_n hx hb dX7_huntNow_196 rfl (lv_at hl 1 rfl) ?_
        refine lv_iload_n hx hb dX7_huntNow_197 rfl (lv_at hl 2 rfl) ?_
        refine lv_iconst (v := (-1)) hx hb dX7_huntNow_198 (by decide) ?_
        refine lv_ixor hx hb dX7_huntNow_199 ?_
        refine lv_iand hx hb dX7_huntNow_200 ?_
        obtain ⟨y41, e42, hf⟩ := bn1_e hf
        refine w_nmi (sm1 e42) ?_
        refine lv_istore_n (lv' := [(1, .int y41), (0, .ref (o 0)), (3, .int (x18 &&& v1))]) hx hb dX7_huntNow_201 rfl hl (by decide) rfl (fun ls hl => ?_)
        refine lv_aload_n hx hb dX7_huntNow_202 rfl (lv_at hl 1 rfl) ?_
        refine lv_iload_n hx hb dX7_huntNow_203 rfl (lv_at hl 0 rfl) ?_
        obtain ⟨x43, g44, hf⟩ := bn1_e hf
        have fr := fr_X7_X7_oM o cA ((sI oM40 11 ((oM40.1 11) + 1))) ((sI oM40 11 ((oM40.1 11) + 1)))
        refine go_i (run_v (As := [.int y41]) (rest := []) ⟨hx, hb, hml, hown, hts⟩ (k_X7_bestSpot l D cA o ((sI oM40 11 ((oM40.1 11) + 1))) y41 x43 g44 H.size) (cwV 1 hts gX7_huntNow_X7_bestSpot rfl rfl rfl hd_X7_bestSpot ⟨Nat.le_of_ble_eq_true rfl, Nat.le_of_ble_eq_true rfl⟩) fr hw hK hA hZo hZ (ci := 7) rfl rfl rfl rfl hl.1 rfl (Nat.le_of_ble_eq_true rfl) dX7_huntNow_204 ⟨Nat.zero_le _, Nat.zero_le _⟩) fr hw hA (fun H locs hw => ?_)
        refine lv_istore_n (lv' := [(2, .int x43), (1, .int y41), (0, .ref (o 0)), (3, .int (x18 &&& v1))]) hx hb dX7_huntNow_207 rfl hl (by decide) rfl (fun ls hl => ?_)
        refine lv_goto (tgt := 62) hx hb dX7_huntNow_208 (by decide) ?_
        exact ih y41 x43 ((sI oM40 11 ((oM40.1 11) + 1))) hf H locs ls hw (lv_sub hl [2, 1, 0] rfl)
  unfold f_X7_huntNow at hf
  obtain ⟨H, hH⟩ : ∃ H, H = s.heap := ⟨_, rfl⟩
  obtain ⟨locs, hlc⟩ : ∃ locs : List Loc, locs = [] := ⟨_, rfl⟩
  have hw : Wd D A s.heap H locs (wX7 o cA oM) := by rw [hH, hlc]; exact hw
  have goal : W p l e rmX7_huntNow s m ([.ref (o 0)] : List Value).toArray below meth c H locs 0 0 Q (F0 m 0 ls []) := by
    clear hH hlc
    refine lv_aload_n hx hb dX7_huntNow_0 rfl (lv_at hl 0 rfl) ?_
    obtain ⟨oM1, g2, hf⟩ := bn1_e hf
    have fr := fr_X7_X7_oM o cA oM oM1
    refine go_v (run_v (As := []) (rest := []) ⟨hx, hb, hml, hown, hts⟩ (k_X7_laySpots l D cA o oM oM1 g2 H.size) (cwV 0 hts gX7_huntNow_X7_laySpots rfl rfl rfl hd_X7_laySpots ⟨Nat.le_of_ble_eq_true rfl, Nat.le_of_ble_eq_true rfl⟩) fr hw hK hA hZo hZ (ci := 7) rfl rfl rfl rfl hl.1 rfl (Nat.le_of_ble_eq_true rfl) dX7_huntNow_1 ⟨Nat.zero_le _, Nat.zero_le _⟩) fr hw hA (fun H locs hw => ?_)
    refine lv_aload_n hx hb dX7_huntNow_4 rfl (lv_at hl 0 rfl) ?_
    refine lv_iconst (v := 0) hx hb dX7_huntNow_5 (by decide) ?_
    refine w_put (ws' := (wX7 o cA ((sI oM1 11 0)))) hx hb hts hi7 tyX7 tyX7_ok nmX7 hown hK hw 0 rfl rfl 11 (by decide) q0 rfl rfl rfl rfl (Nat.le_of_ble_eq_true rfl) rfl dX7_huntNow_6 (fun H locs hw => ?_)
    refine lv_aload_n hx hb dX7_huntNow_9 rfl (lv_at hl 0 rfl) ?_
    refine lv_dup hx hb dX7_huntNow_10 rfl ?_
    refine w_get hx hb hts hi7 hown hK hw 0 rfl rfl 16 (by decide) q1 rfl (v := .int (oM1.1 16)) rfl dX7_huntNow_11 ?_
    refine lv_iconst (v := 1) hx hb dX7_huntNow_14 (by decide) ?_
    refine lv_iadd hx hb dX7_huntNow_15 ?_
    refine w_put (ws' := (wX7 o cA ((sI (sI oM1 11 0) 16 ((oM1.1 16) + 1))))) hx hb hts hi7 tyX7 tyX7_ok nmX7 hown hK hw 0 rfl rfl 16 (by decide) q1 rfl rfl rfl rfl (Nat.le_of_ble_eq_true rfl) rfl dX7_huntNow_16 (fun H locs hw => ?_)
    refine lv_aload_n hx hb dX7_huntNow_19 rfl (lv_at hl 0 rfl) ?_
    refine lv_iconst (v := 1) hx hb dX7_huntNow_20 (by decide) ?_
    refine w_put (ws' := (wX7 o cA ((sI (sI (sI oM1 11 0) 16 ((oM1.1 16) + 1)) 10 1)))) hx hb hts hi7 tyX7 tyX7_ok nmX7 hown hK hw 0 rfl rfl 10 (by decide) q2 rfl rfl (by decide) (by decide) (Nat.le_of_ble_eq_true rfl) rfl dX7_huntNow_21 (fun H locs hw => ?_)
    refine lv_iconst (v := 1) hx hb dX7_huntNow_24 (by decide) ?_
    refine lv_aload_n hx hb dX7_huntNow_25 rfl (lv_at hl 0 rfl) ?_
    refine w_get hx hb hts hi7 hown hK hw 0 rfl rfl 5 (by decide) q3 rfl (v := .int (oM1.1 5)) rfl dX7_huntNow_26 ?_
    refine lv_ishl hx hb dX7_huntNow_29 ?_
    refine lv_iconst (v := 1) hx hb dX7_huntNow_30 (by decide) ?_
    refine lv_isub hx hb dX7_huntNow_31 ?_
    obtain ⟨y3, e4, hf⟩ := bn1_e hf
    refine w_nmi (sm1 e4) ?_
    refine lv_istore_n (lv' := [(1, .int y3), (0, .ref (o 0))]) hx hb dX7_huntNow_32 rfl hl (by decide) rfl (fun ls hl => ?_)
    refine lv_iconst (v := 0) hx hb dX7_huntNow_33 (by decide) ?_
    refine lv_istore_n (lv' := [(2, .int 0), (1, .int y3), (0, .ref (o 0))]) hx hb dX7_huntNow_34 rfl hl (by decide) rfl (fun ls hl => ?_)
    refine h_L35 y3 _ ?_ _ 0 ((sI (sI (sI oM1 11 0) 16 ((oM1.1 16) + 1)) 10 1)) hf H locs ls hw (lv_sub hl [2, 1, 0] rfl)
    intro oM8 hf H locs ls hw hl
    refine lv_aload_n hx hb dX7_huntNow_56 rfl (lv_at hl 0 rfl) ?_
    refine lv_iload_n hx hb dX7_huntNow_57 rfl (lv_at hl 1 rfl) ?_
    obtain ⟨x9, g10, hf⟩ := bn1_e hf
    have fr := fr_X7_X7_oM o cA oM8 oM8
    refine go_i (run_v (As := [.int y3]) (rest := []) ⟨hx, hb, hml, hown, hts⟩ (k_X7_bestSpot l D cA o oM8 y3 x9 g10 H.size) (cwV 1 hts gX7_huntNow_X7_bestSpot rfl rfl rfl hd_X7_bestSpot ⟨Nat.le_of_ble_eq_true rfl, Nat.le_of_ble_eq_true rfl⟩) fr hw hK hA hZo hZ (ci := 7) rfl rfl rfl rfl hl.1 rfl (Nat.le_of_ble_eq_true rfl) dX7_huntNow_58 ⟨Nat.zero_le _, Nat.zero_le _⟩) fr hw hA (fun H locs hw => ?_)
    refine lv_istore_n (lv' := [(2, .int x9), (0, .ref (o 0)), (1, .int y3)]) hx hb dX7_huntNow_61 rfl hl (by decide) rfl (fun ls hl => ?_)
    exact h_L62  _ y3 x9 oM8 hf H locs ls hw (lv_sub hl [1, 2, 0] rfl)
  rw [hH, hlc] at goal
  exact goal
abbrev rmX7_hunt : Room := { frames := 7, cells := 0, slots := 0, locals := 173 }
theorem hd_X7_hunt : yX7_hunt.cls = RX7 ∧ yX7_hunt.cls ≠ "java/lang/invoke/MethodHandle" ∧ yX7_hunt.cls ≠ "java/lang/invoke/VarHandle" ∧ (parseMethodDescriptor yX7_hunt.desc).map (fun d => d.parameters.length) = some 0 := by decide +kernel
set_option maxHeartbeats 4000000 in
set_option maxRecDepth 100000 in
theorem k_X7_hunt (l : Launch) (D : va_G) (cA : ClassId) (o : Nat → Nat) (oM : St) (r : Int32) (oM' : St) (hf : f_X7_hunt oM = some (r, oM')) : Mi l yX7_hunt wsX7_hunt rmX7_hunt D cA z_0 [.ref (o 0)] (wX7 o cA oM) r (wX7 o cA oM') := by
  refine Mi.of (cc := cX7_hunt) (maxL := 1) (ret := (some .int)) (plainFor_of_name (by decide)) rfl (Nat.le_of_ble_eq_true rfl) (Or.inl rfl) ?_
  intro p e s m below meth c A Q hx hb hml hown hts hK hA hZ hret ls hl hw
  replace hown : s.vm.findClass RX7 = some m.cls := hown
  have hl : lv_has ls 1 [(0, .ref (o 0))] := hl
  have hZo := z_0_ok
  unfold f_X7_hunt at hf
  obtain ⟨H, hH⟩ : ∃ H, H = s.heap := ⟨_, rfl⟩
  obtain ⟨locs, hlc⟩ : ∃ locs : List Loc, locs = [] := ⟨_, rfl⟩
  have hw : Wd D A s.heap H locs (wX7 o cA oM) := by rw [hH, hlc]; exact hw
  have goal : W p l e rmX7_hunt s m ([.ref (o 0)] : List Value).toArray below meth c H locs 0 0 Q (F0 m 0 ls []) := by
    clear hH hlc
    refine lv_aload_n hx hb dX7_hunt_0 rfl (lv_at hl 0 rfl) ?_
    obtain ⟨x1, g2, hf⟩ := bn1_e hf
    have fr := fr_X7_X7_oM o cA oM oM
    refine go_i (run_v (As := []) (rest := []) ⟨hx, hb, hml, hown, hts⟩ (k_X7_isSheet l D cA o oM x1 g2 H.size) (cwV 0 hts gX7_hunt_X7_isSheet rfl rfl rfl hd_X7_isSheet ⟨Nat.le_of_ble_eq_true rfl, Nat.le_of_ble_eq_true rfl⟩) fr hw hK hA hZo hZ (ci := 7) rfl rfl rfl rfl hl.1 rfl (Nat.le_of_ble_eq_true rfl) dX7_hunt_1 ⟨Nat.zero_le _, Nat.zero_le _⟩) fr hw hA (fun H locs hw => ?_)
    refine lv_if_eq (tgt := 14) hx hb dX7_hunt_4 (by decide) (fun c3 => ?_) (fun c3 => ?_)
    · have hf := if_t c3 hf
      refine lv_bipush (v := (-103)) hx hb dX7_hunt_14 (by decide) ?_
      obtain ⟨e0_, e1_⟩ := sm2 hf
      exact hret _ _ _ _ _ (by rw [← e1_]; exact hw) e0_ (Or.inl rfl) dX7_hunt_16
    · have hf := if_f c3 hf
      refine lv_aload_n hx hb dX7_hunt_7 rfl (lv_at hl 0 rfl) ?_
      obtain ⟨x4, oM5, g6, hf⟩ := bn2_e hf
      have fr := fr_X7_X7_oM o cA oM oM5
      refine go_i (run_v (As := []) (rest := []) ⟨hx, hb, hml, hown, hts⟩ (k_X7_huntNow l D cA o oM x4 oM5 g6 H.size) (cwV 0 hts gX7_hunt_X7_huntNow rfl rfl rfl hd_X7_huntNow ⟨Nat.le_of_ble_eq_true rfl, Nat.le_of_ble_eq_true rfl⟩) fr hw hK hA hZo hZ (ci := 7) rfl rfl rfl rfl hl.1 rfl (Nat.le_of_ble_eq_true rfl) dX7_hunt_8 ⟨Nat.zero_le _, Nat.zero_le _⟩) fr hw hA (fun H locs hw => ?_)
      refine lv_goto (tgt := 16) hx hb dX7_hunt_11 (by decide) ?_
      obtain ⟨e0_, e1_⟩ := sm2 hf
      exact hret _ _ _ _ _ (by rw [← e1_]; exact hw) e0_ (Or.inl rfl) dX7_hunt_16
  rw [hH, hlc] at goal
  exact goal
abbrev rmX7_farFrom : Room := { frames := 1, cells := 0, slots := 0, locals := 25 }
theorem hd_X7_farFrom : yX7_farFrom.cls = RX7 ∧ yX7_farFrom.cls ≠ "java/lang/invoke/MethodHandle" ∧ yX7_farFrom.cls ≠ "java/lang/invoke/VarHandle" ∧ (parseMethodDescriptor yX7_farFrom.desc).map (fun d => d.parameters.length) = some 2 := by decide +kernel
set_option maxHeartbeats 4000000 in
set_option maxRecDepth 100000 in
theorem k_X7_farFrom (l : Launch) (D : va_G) (cA : ClassId) (o : Nat → Nat) (oM : St) (a1 : Int32) (a2 : Int32) (r : Int32) (hf : f_X7_farFrom oM a1 a2 = some (r)) : Mi l yX7_farFrom wsX7_farFrom rmX7_farFrom D cA z_0 [.ref (o 0), .int a1, .int a2] (wX7 o cA oM) r (wX7 o cA oM) := by
  refine Mi.of (cc := cX7_farFrom) (maxL := 4) (ret := (some .int)) (plainFor_of_name (by decide)) rfl (Nat.le_of_ble_eq_true rfl) (Or.inl rfl) ?_
  intro p e s m below meth c A Q hx hb hml hown hts hK hA hZ hret ls hl hw
  replace hown : s.vm.findClass RX7 = some m.cls := hown
  have hl : lv_has ls 4 [(0, .ref (o 0)), (1, .int a1), (2, .int a2)] := hl
  have hZo := z_0_ok
  have hi7 : ∀ w ∈ wsX70, w ∈ wsX7_farFrom := fun w h => List.mem_cons_of_mem _ (List.mem_append_right _ h)
  have q0 := hts (.fieldLink RX7 31 "ArcRingsModel" "ringR" "[I") (by decide +kernel)
  have q1 := hts (.fieldLink RX7 25 "ArcRingsModel" "ringX" "[I") (by decide +kernel)
  have q2 := hts (.fieldLink RX7 28 "ArcRingsModel" "ringY" "[I") (by decide +kernel)
  unfold f_X7_farFrom at hf
  obtain ⟨H, hH⟩ : ∃ H, H = s.heap := ⟨_, rfl⟩
  obtain ⟨locs, hlc⟩ : ∃ locs : List Loc, locs = [] := ⟨_, rfl⟩
  have hw : Wd D A s.heap H locs (wX7 o cA oM) := by rw [hH, hlc]; exact hw
  have goal : W p l e rmX7_farFrom s m ([.ref (o 0), .int a1, .int a2] : List Value).toArray below meth c H locs 0 0 Q (F0 m 0 ls []) := by
    clear hH hlc
    refine lv_iconst (v := 2) hx hb dX7_farFrom_0 (by decide) ?_
    refine lv_aload_n hx hb dX7_farFrom_1 rfl (lv_at hl 0 rfl) ?_
    refine w_get hx hb hts hi7 hown hK hw 0 rfl rfl 14 (by decide) q0 rfl (v := .ref (o 8)) rfl dX7_farFrom_2 ?_
    refine lv_iload_n hx hb dX7_farFrom_5 rfl (lv_at hl 1 rfl) ?_
    obtain ⟨x1, g2, hf⟩ := bn1_e hf
    refine w_ald hx hb hK hw 8 rfl g2 dX7_farFrom_6 ?_
    refine lv_imul hx hb dX7_farFrom_7 ?_
    refine lv_iconst (v := 1) hx hb dX7_farFrom_8 (by decide) ?_
    refine lv_iadd hx hb dX7_farFrom_9 ?_
    refine lv_istore_n (lv' := [(3, .int ((2 * x1) + 1)), (0, .ref (o 0)), (1, .int a1), (2, .int a2)]) hx hb dX7_farFrom_10 rfl hl (by decide) rfl (fun ls hl => ?_)
    refine lv_aload_n hx hb dX7_farFrom_11 rfl (lv_at hl 1 rfl) ?_
    refine lv_aload_n hx hb dX7_farFrom_12 rfl (lv_at hl 1 rfl) ?_
    refine w_get hx hb hts hi7 hown hK hw 0 rfl rfl 12 (by decide) q1 rfl (v := .ref (o 6)) rfl dX7_farFrom_13 ?_
    refine lv_iload_n hx hb dX7_farFrom_16 rfl (lv_at hl 2 rfl) ?_
    obtain ⟨x3, g4, hf⟩ := bn1_e hf
    refine w_ald hx hb hK hw 6 rfl g4 dX7_farFrom_17 ?_
    refine lv_aload_n hx hb dX7_farFrom_18 rfl (lv_at hl 1 rfl) ?_
    refine w_get hx hb hts hi7 hown hK hw 0 rfl rfl 13 (by decide) q2 rfl (v := .ref (o 7)) rfl dX7_farFrom_19 ?_
    refine lv_iload_n hx hb dX7_farFrom_22 rfl (lv_at hl 2 rfl) ?_
    obtain ⟨x5, g6, hf⟩ := bn1_e hf
    refine w_ald hx hb hK hw 7 rfl g6 dX7_farFrom_23 ?_
    refine lv_iload_n hx hb dX7_farFrom_24 rfl (lv_at hl 3 rfl) ?_
    obtain ⟨x7, g8, hf⟩ := bn1_e hf
    have fr := fr_X7_X7_oM o cA oM oM
    refine go_i (run_v (As := [.int x3, .int x5, .int a2]) (rest := []) ⟨hx, hb, hml, hown, hts⟩ (k_X7_farOf l D cA o oM x3 x5 a2 x7 g8 H.size) (cwV 3 hts gX7_farFrom_X7_farOf rfl rfl rfl hd_X7_farOf ⟨Nat.le_of_ble_eq_true rfl, Nat.le_of_ble_eq_true rfl⟩) fr hw hK hA hZo hZ (ci := 7) rfl rfl rfl rfl hl.1 rfl (Nat.le_of_ble_eq_true rfl) dX7_farFrom_25 ⟨Nat.zero_le _, Nat.zero_le _⟩) fr hw hA (fun H locs hw => ?_)
    refine lv_iload_n hx hb dX7_farFrom_28 rfl (lv_at hl 0 rfl) ?_
    refine lv_iload_n hx hb dX7_farFrom_29 rfl (lv_at hl 0 rfl) ?_
    refine lv_imul hx hb dX7_farFrom_30 ?_
    refine lv_isub hx hb dX7_farFrom_31 ?_
    obtain ⟨x9, g10, hf⟩ := bn1_e hf
    have fr := fr_X7_S o cA oM
    refine go_i (run_s (As := [.int (x7 - (((2 * x1) + 1) * ((2 * x1) + 1)))]) (rest := []) ⟨hx, hb, hml, hown, hts⟩ (k_X7_abs l D cA (x7 - (((2 * x1) + 1) * ((2 * x1) + 1))) x9 g10 H.size) (va_cwS 1 hts gX7_farFrom_X7_abs rfl rfl rfl hd_X7_abs ⟨Nat.le_of_ble_eq_true rfl, Nat.le_of_ble_eq_true rfl⟩) fr hw hK hA rfl hl.1 rfl (Nat.le_of_ble_eq_true rfl) dX7_farFrom_32 ⟨Nat.zero_le _, Nat.zero_le _⟩) fr hw hA (fun H locs hw => ?_)
    have e0_ := sm1 hf
    exact hret _ _ _ _ _ hw e0_ (Or.inl rfl) dX7_farFrom_35
  rw [hH, hlc] at goal
  exact goal
abbrev rmX7_nearestRing : Room := { frames := 3, cells := 0, slots := 0, locals := 84 }
theorem hd_X7_nearestRing : yX7_nearestRing.cls = RX7 ∧ yX7_nearestRing.cls ≠ "java/lang/invoke/MethodHandle" ∧ yX7_nearestRing.cls ≠ "java/lang/invoke/VarHandle" ∧ (parseMethodDescriptor yX7_nearestRing.desc).map (fun d => d.parameters.length) = some 1 := by decide +kernel
set_option maxHeartbeats 4000000 in
set_option maxRecDepth 100000 in
theorem k_X7_nearestRing (l : Launch) (D : va_G) (cA : ClassId) (o : Nat → Nat) (oM : St) (a1 : Int32) (r : Int32) (hf : f_X7_nearestRing oM a1 = some (r)) : Mi l yX7_nearestRing wsX7_nearestRing rmX7_nearestRing D cA z_0 [.ref (o 0), .int a1] (wX7 o cA oM) r (wX7 o cA oM) := by
  refine Mi.of (cc := cX7_nearestRing) (maxL := 5) (ret := (some .int)) (plainFor_of_name (by decide)) rfl (Nat.le_of_ble_eq_true rfl) (Or.inl rfl) ?_
  intro p e s m below meth c A Q hx hb hml hown hts hK hA hZ hret ls hl hw
  replace hown : s.vm.findClass RX7 = some m.cls := hown
  have hl : lv_has ls 5 [(0, .ref (o 0)), (1, .int a1)] := hl
  have hZo := z_0_ok
  have hi7 : ∀ w ∈ wsX70, w ∈ wsX7_nearestRing := fun w h => List.mem_cons_of_mem _ (List.mem_append_right _ h)
  have q0 := hts (.fieldLink RX7 319 "ArcRingsModel" "rings" "I") (by decide +kernel)
  have q1 := hts (.fieldLink RX7 25 "ArcRingsModel" "ringX" "[I") (by decide +kernel)
  have q2 := hts (.fieldLink RX7 28 "ArcRingsModel" "ringY" "[I") (by decide +kernel)
  have q3 := hts (.fieldLink RX7 31 "ArcRingsModel" "ringR" "[I") (by decide +kernel)
  have h_L4 : ∀ (v1 : Int32), ∀ (n : Nat) (v2 : Int32) (v3 : Int32), f_X7_nearestRing_L4 oM v1 n v2 v3 = some (r) → ∀ (H : Heap) (locs : List Loc) (ls : Array Slot), Wd D A s.heap H locs (wX7 o cA oM) → lv_has ls 5 [(0, .ref (o 0)), (1, .int v1), (2, .int v2), (3, .int v3)] → W p l e rmX7_nearestRing s m ([.ref (o 0), .int a1] : List Value).toArray below meth c H locs 0 0 Q (F0 m 4 ls []) := by
    intro v1 n
    induction n with
    | zero =>
      intro v2 v3 hf
      have hf : none = some (r) := hf
      cases hf
    | succ n ih =>
      intro v2 v3 hf H locs ls hw hl
      have hf := (f_X7_nearestRing_L4_s oM v1 n v2 v3).symm.trans hf
      refine lv_iload_n hx hb dX7_nearestRing_4 rfl (lv_at hl 3 rfl) ?_
      refine lv_aload_n hx hb dX7_nearestRing_5 rfl (lv_at hl 0 rfl) ?_
      refine w_get hx hb hts hi7 hown hK hw 0 rfl rfl 11 (by decide) q0 rfl (v := .int (oM.1 11)) rfl dX7_nearestRing_6 ?_
      refine lv_icmp_ge (tgt := 82) hx hb dX7_nearestRing_9 (by decide) (fun c1 => ?_) (fun c1 => ?_)
      · have hf := if_t c1 hf
        refine lv_iload_n hx hb dX7_nearestRing_82 rfl (lv_at hl 2 rfl) ?_
        have e0_ := sm1 hf
        exact hret _ _ _ _ _ hw e0_ (Or.inl rfl) dX7_nearestRing_83
      · have hf := if_f c1 hf
        refine lv_aload_n hx hb dX7_nearestRing_12 rfl (lv_at hl 0 rfl) ?_
        refine lv_aload_n hx hb dX7_nearestRing_13 rfl (lv_at hl 0 rfl) ?_
        refine w_get hx hb hts hi7 hown hK hw 0 rfl rfl 12 (by decide) q1 rfl (v := .ref (o 6)) rfl dX7_nearestRing_14 ?_
        refine lv_iload_n hx hb dX7_nearestRing_17 rfl (lv_at hl 3 rfl) ?_
        obtain ⟨x2, g3, hf⟩ := bn1_e hf
        refine w_ald hx hb hK hw 6 rfl g3 dX7_nearestRing_18 ?_
        refine lv_aload_n hx hb dX7_nearestRing_19 rfl (lv_at hl 0 rfl) ?_
        refine w_get hx hb hts hi7 hown hK hw 0 rfl rfl 13 (by decide) q2 rfl (v := .ref (o 7)) rfl dX7_nearestRing_20 ?_
        refine lv_iload_n hx hb dX7_nearestRing_23 rfl (lv_at hl 3 rfl) ?_
        obtain ⟨x4, g5, hf⟩ := bn1_e hf
        refine w_ald hx hb hK hw 7 rfl g5 dX7_nearestRing_24 ?_
        refine lv_aload_n hx hb dX7_nearestRing_25 rfl (lv_at hl 0 rfl) ?_
        refine w_get hx hb hts hi7 hown hK hw 0 rfl rfl 14 (by decide) q3 rfl (v := .ref (o 8)) rfl dX7_nearestRing_26 ?_
        refine lv_iload_n hx hb dX7_nearestRing_29 rfl (lv_at hl 3 rfl) ?_
        obtain ⟨x6, g7, hf⟩ := bn1_e hf
        refine w_ald hx hb hK hw 8 rfl g7 dX7_nearestRing_30 ?_
        refine lv_iload_n hx hb dX7_nearestRing_31 rfl (lv_at hl 1 rfl) ?_
        obtain ⟨x8, g9, hf⟩ := bn1_e hf
        have fr := fr_X7_X7_oM o cA oM oM
        refine go_i (run_v (As := [.int x2, .int x4, .int x6, .int v1]) (rest := []) ⟨hx, hb, hml, hown, hts⟩ (k_X7_supports l D cA o oM x2 x4 x6 v1 x8 g9 H.size) (cwV 4 hts gX7_nearestRing_X7_supports rfl rfl rfl hd_X7_supports ⟨Nat.le_of_ble_eq_true rfl, Nat.le_of_ble_eq_true rfl⟩) fr hw hK hA hZo hZ (ci := 7) rfl rfl rfl rfl hl.1 rfl (Nat.le_of_ble_eq_true rfl) dX7_nearestRing_32 ⟨Nat.zero_le _, Nat.zero_le _⟩) fr hw hA (fun H locs hw => ?_)
        refine lv_if_eq (tgt := 62) hx hb dX7_nearestRing_35 (by decide) (fun c10 => ?_) (fun c10 => ?_)
        · have hf := if_t c10 hf
          refine lv_iconst (v := 0) hx hb dX7_nearestRing_62 (by decide) ?_
          refine lv_istore (lv' := [(4, .int 0), (0, .ref (o 0)), (1, .int v1), (2, .int v2), (3, .int v3)]) hx hb dX7_nearestRing_63 hl (by decide) rfl (fun ls hl => ?_)
          refine lv_iload hx hb dX7_nearestRing_65 (lv_at hl 0 rfl) ?_
          refine lv_if_eq (tgt := 74) hx hb dX7_nearestRing_67 (by decide) (fun c11 => ?_) (fun c11 => ?_)
          rotate_left
          · exact absurd c11 (by decide)
          refine lv_iload_n hx hb dX7_nearestRing_74 rfl (lv_at hl 3 rfl) ?_
          refine lv_istore_n (lv' := [(2, .int v2), (4, .int 0), (0, .ref (o 0)), (1, .int v1), (3, .int v3)]) hx hb dX7_nearestRing_75 rfl hl (by decide) rfl (fun ls hl => ?_)
          refine lv_iinc (v := v3 + 1) (lv' := [(3, .int (v3 + 1)), (2, .int v2), (4, .int 0), (0, .ref (o 0)), (1, .int v1)]) hx hb dX7_nearestRing_76 hl (k := 4) rfl (by rfl) (by decide) rfl (fun ls hl => ?_)
          refine lv_goto (tgt := 4) hx hb dX7_nearestRing_79 (by decide) ?_
          exact ih v2 (v3 + 1) hf H locs ls hw (lv_sub hl [3, 4, 1, 0] rfl)
        · have hf := if_f c10 hf
          refine lv_iload_n hx hb dX7_nearestRing_38 rfl (lv_at hl 2 rfl) ?_
          refine lv_iconst (v := (-1)) hx hb dX7_nearestRing_39 (by decide) ?_
          refine lv_icmp_eq (tgt := 58) hx hb dX7_nearestRing_40 (by decide) (fun c12 => ?_) (fun c12 => ?_)
          · have hf := if_t c12 hf
            refine lv_iconst (v := 1) hx hb dX7_nearestRing_58 (by decide) ?_
            refine lv_goto (tgt := 63) hx hb dX7_nearestRing_59 (by decide) ?_
            refine lv_istore (lv' := [(4, .int 1), (0, .ref (o 0)), (1, .int v1), (2, .int v2), (3, .int v3)]) hx hb dX7_nearestRing_63 hl (by decide) rfl (fun ls hl => ?_)
            refine lv_iload hx hb dX7_nearestRing_65 (lv_at hl 0 rfl) ?_
            refine lv_if_eq (tgt := 74) hx hb dX7_nearestRing_67 (by decide) (fun c13 => ?_) (fun c13 => ?_)
            · exact absurd c13 (by decide)
            refine lv_iload_n hx hb dX7_nearestRing_70 rfl (lv_at hl 4 rfl) ?_
            refine lv_goto (tgt := 75) hx hb dX7_nearestRing_71 (by decide) ?_
            refine lv_istore_n (lv' := [(2, .int v3), (4, .int 1), (0, .ref (o 0)), (1, .int v1), (3, .int v3)]) hx hb dX7_nearestRing_75 rfl hl (by decide) rfl (fun ls hl => ?_)
            refine lv_iinc (v := v3 + 1) (lv' := [(3, .int (v3 + 1)), (2, .int v3), (4, .int 1), (0, .ref (o 0)), (1, .int v1)]) hx hb dX7_nearestRing_76 hl (k := 4) rfl (by rfl) (by decide) rfl (fun ls hl => ?_)
            refine lv_goto (tgt := 4) hx hb dX7_nearestRing_79 (by decide) ?_
            exact ih v3 (v3 + 1) hf H locs ls hw (lv_sub hl [3, 4, 1, 0] rfl)
          · have hf := if_f c12 hf
            refine lv_aload_n hx hb dX7_nearestRing_43 rfl (lv_at hl 0 rfl) ?_
            refine lv_iload_n hx hb dX7_nearestRing_44 rfl (lv_at hl 3 rfl) ?_
            refine lv_iload_n hx hb dX7_nearestRing_45 rfl (lv_at hl 1 rfl) ?_
            obtain ⟨x14, g15, hf⟩ := bn1_e hf
            have fr := fr_X7_X7_oM o cA oM oM
            refine go_i (run_v (As := [.int v3, .int v1]) (rest := []) ⟨hx, hb, hml, hown, hts⟩ (k_X7_farFrom l D cA o oM v3 v1 x14 g15 H.size) (cwV 2 hts gX7_nearestRing_X7_farFrom rfl rfl rfl hd_X7_farFrom ⟨Nat.le_of_ble_eq_true rfl, Nat.le_of_ble_eq_true rfl⟩) fr hw hK hA hZo hZ (ci := 7) rfl rfl rfl rfl hl.1 rfl (Nat.le_of_ble_eq_true rfl) dX7_nearestRing_46 ⟨Nat.zero_le _, Nat.zero_le _⟩) fr hw hA (fun H locs hw => ?_)
            refine lv_aload_n hx hb dX7_nearestRing_49 rfl (lv_at hl 0 rfl) ?_
            refine lv_iload_n hx hb dX7_nearestRing_50 rfl (lv_at hl 2 rfl) ?_
            refine lv_iload_n hx hb dX7_nearestRing_51 rfl (lv_at hl 1 rfl) ?_
            obtain ⟨x16, g17, hf⟩ := bn1_e hf
            have fr := fr_X7_X7_oM o cA oM oM
            refine go_i (run_v (As := [.int v2, .int v1]) (rest := [.int x14]) ⟨hx, hb, hml, hown, hts⟩ (k_X7_farFrom l D cA o oM v2 v1 x16 g17 H.size) (cwV 2 hts gX7_nearestRing_X7_farFrom rfl rfl rfl hd_X7_farFrom ⟨Nat.le_of_ble_eq_true rfl, Nat.le_of_ble_eq_true rfl⟩) fr hw hK hA hZo hZ (ci := 7) rfl rfl rfl rfl hl.1 rfl (Nat.le_of_ble_eq_true rfl) dX7_nearestRing_52 ⟨Nat.zero_le _, Nat.zero_le _⟩) fr hw hA (fun H locs hw => ?_)
            refine lv_icmp_ge (tgt := 62) hx hb dX7_nearestRing_55 (by decide) (fun c18 => ?_) (fun c18 => ?_)
            · have hf := if_t c18 hf
              refine lv_iconst (v := 0) hx hb dX7_nearestRing_62 (by decide) ?_
              refine lv_istore (lv' := [(4, .int 0), (0, .ref (o 0)), (1, .int v1), (2, .int v2), (3, .int v3)]) hx hb dX7_nearestRing_63 hl (by decide) rfl (fun ls hl => ?_)
              refine lv_iload hx hb dX7_nearestRing_65 (lv_at hl 0 rfl) ?_
              refine lv_if_eq (tgt := 74) hx hb dX7_nearestRing_67 (by decide) (fun c19 => ?_) (fun c19 => ?_)
              rotate_left
              · exact absurd c19 (by decide)
              refine lv_iload_n hx hb dX7_nearestRing_74 rfl (lv_at hl 3 rfl) ?_
              refine lv_istore_n (lv' := [(2, .int v2), (4, .int 0), (0, .ref (o 0)), (1, .int v1), (3, .int v3)]) hx hb dX7_nearestRing_75 rfl hl (by decide) rfl (fun ls hl => ?_)
              refine lv_iinc (v := v3 + 1) (lv' := [(3, .int (v3 + 1)), (2, .int v2), (4, .int 0), (0, .ref (o 0)), (1, .int v1)]) hx hb dX7_nearestRing_76 hl (k := 4) rfl (by rfl) (by decide) rfl (fun ls hl => ?_)
              refine lv_goto (tgt := 4) hx hb dX7_nearestRing_79 (by decide) ?_
              exact ih v2 (v3 + 1) hf H locs ls hw (lv_sub hl [3, 4, 1, 0] rfl)
            · have hf := if_f c18 hf
              refine lv_iconst (v := 1) hx hb dX7_nearestRing_58 (by decide) ?_
              refine lv_goto (tgt := 63) hx hb dX7_nearestRing_59 (by decide) ?_
              refine lv_istore (lv' := [(4, .int 1), (0, .ref (o 0)), (1, .int v1), (2, .int v2), (3, .int v3)]) hx hb dX7_nearestRing_63 hl (by decide) rfl (fun ls hl => ?_)
              refine lv_iload hx hb dX7_nearestRing_65 (lv_at hl 0 rfl) ?_
              refine lv_if_eq (tgt := 74) hx hb dX7_nearestRing_67 (by decide) (fun c20 => ?_) (fun c20 => ?_)
              · exact absurd c20 (by decide)
              refine lv_iload_n hx hb dX7_nearestRing_70 rfl (lv_at hl 4 rfl) ?_
              refine lv_goto (tgt := 75) hx hb dX7_nearestRing_71 (by decide) ?_
              refine lv_istore_n (lv' := [(2, .int v3), (4, .int 1), (0, .ref (o 0)), (1, .int v1), (3, .int v3)]) hx hb dX7_nearestRing_75 rfl hl (by decide) rfl (fun ls hl => ?_)
              refine lv_iinc (v := v3 + 1) (lv' := [(3, .int (v3 + 1)), (2, .int v3), (4, .int 1), (0, .ref (o 0)), (1, .int v1)]) hx hb dX7_nearestRing_76 hl (k := 4) rfl (by rfl) (by decide) rfl (fun ls hl => ?_)
              refine lv_goto (tgt := 4) hx hb dX7_nearestRing_79 (by decide) ?_
              exact ih v3 (v3 + 1) hf H locs ls hw (lv_sub hl [3, 4, 1, 0] rfl)
  unfold f_X7_nearestRing at hf
  obtain ⟨H, hH⟩ : ∃ H, H = s.heap := ⟨_, rfl⟩
  obtain ⟨locs, hlc⟩ : ∃ locs : List Loc, locs = [] := ⟨_, rfl⟩
  have hw : Wd D A s.heap H locs (wX7 o cA oM) := by rw [hH, hlc]; exact hw
  have goal : W p l e rmX7_nearestRing s m ([.ref (o 0), .int a1] : List Value).toArray below meth c H locs 0 0 Q (F0 m 0 ls []) := by
    clear hH hlc
    refine lv_iconst (v := (-1)) hx hb dX7_nearestRing_0 (by decide) ?_
    refine lv_istore_n (lv' := [(2, .int ((-1))), (0, .ref (o 0)), (1, .int a1)]) hx hb dX7_nearestRing_1 rfl hl (by decide) rfl (fun ls hl => ?_)
    refine lv_iconst (v := 0) hx hb dX7_nearestRing_2 (by decide) ?_
    refine lv_istore_n (lv' := [(3, .int 0), (2, .int ((-1))), (0, .ref (o 0)), (1, .int a1)]) hx hb dX7_nearestRing_3 rfl hl (by decide) rfl (fun ls hl => ?_)
    exact h_L4 a1 _ ((-1)) 0 hf H locs ls hw (lv_sub hl [2, 3, 1, 0] rfl)
  rw [hH, hlc] at goal
  exact goal
abbrev rmX7_ownOf : Room := { frames := 0, cells := 0, slots := 0, locals := 0 }
theorem hd_X7_ownOf : yX7_ownOf.cls = RX7 ∧ yX7_ownOf.cls ≠ "java/lang/invoke/MethodHandle" ∧ yX7_ownOf.cls ≠ "java/lang/invoke/VarHandle" ∧ (parseMethodDescriptor yX7_ownOf.desc).map (fun d => d.parameters.length) = some 1 := by decide +kernel
set_option maxHeartbeats 4000000 in
set_option maxRecDepth 100000 in
theorem k_X7_ownOf (l : Launch) (D : va_G) (cA : ClassId) (o : Nat → Nat) (oM : St) (a1 : Int32) (r : Int32) (hf : f_X7_ownOf oM a1 = some (r)) : Mi l yX7_ownOf wsX7_ownOf rmX7_ownOf D cA z_0 [.ref (o 0), .int a1] (wX7 o cA oM) r (wX7 o cA oM) := by
  refine Mi.of (cc := cX7_ownOf) (maxL := 4) (ret := (some .int)) (plainFor_of_name (by decide)) rfl (Nat.le_of_ble_eq_true rfl) (Or.inl rfl) ?_
  intro p e s m below meth c A Q hx hb hml hown hts hK hA hZ hret ls hl hw
  replace hown : s.vm.findClass RX7 = some m.cls := hown
  have hl : lv_has ls 4 [(0, .ref (o 0)), (1, .int a1)] := hl
  have hZo := z_0_ok
  have hi7 : ∀ w ∈ wsX70, w ∈ wsX7_ownOf := fun w h => List.mem_cons_of_mem _ (List.mem_append_right _ h)
  have q0 := hts (.fieldLink RX7 121 "ArcRingsModel" "dots" "I") (by decide +kernel)
  have q1 := hts (.fieldLink RX7 34 "ArcRingsModel" "ownRing" "[I") (by decide +kernel)
  have h_L4 : ∀ (v1 : Int32), ∀ (n : Nat) (v2 : Int32) (v3 : Int32), f_X7_ownOf_L4 oM v1 n v2 v3 = some (r) → ∀ (H : Heap) (locs : List Loc) (ls : Array Slot), Wd D A s.heap H locs (wX7 o cA oM) → lv_has ls 4 [(0, .ref (o 0)), (1, .int v1), (2, .int v2), (3, .int v3)] → W p l e rmX7_ownOf s m ([.ref (o 0), .int a1] : List Value).toArray below meth c H locs 0 0 Q (F0 m 4 ls []) := by
    intro v1 n
    induction n with
    | zero =>
      intro v2 v3 hf
      have hf : none = some (r) := hf
      cases hf
    | succ n ih =>
      intro v2 v3 hf H locs ls hw hl
      have hf := (f_X7_ownOf_L4_s oM v1 n v2 v3).symm.trans hf
      refine lv_iload_n hx hb dX7_ownOf_4 rfl (lv_at hl 3 rfl) ?_
      refine lv_aload_n hx hb dX7_ownOf_5 rfl (lv_at hl 0 rfl) ?_
      refine w_get hx hb hts hi7 hown hK hw 0 rfl rfl 5 (by decide) q0 rfl (v := .int (oM.1 5)) rfl dX7_ownOf_6 ?_
      refine lv_icmp_ge (tgt := 38) hx hb dX7_ownOf_9 (by decide) (fun c1 => ?_) (fun c1 => ?_)
      · have hf := if_t c1 hf
        refine lv_iload_n hx hb dX7_ownOf_38 rfl (lv_at hl 2 rfl) ?_
        have e0_ := sm1 hf
        exact hret _ _ _ _ _ hw e0_ (Or.inl rfl) dX7_ownOf_39
      · have hf := if_f c1 hf
        refine lv_iload_n hx hb dX7_ownOf_12 rfl (lv_at hl 2 rfl) ?_
        refine lv_aload_n hx hb dX7_ownOf_13 rfl (lv_at hl 0 rfl) ?_
        refine w_get hx hb hts hi7 hown hK hw 0 rfl rfl 15 (by decide) q1 rfl (v := .ref (o 9)) rfl dX7_ownOf_14 ?_
        refine lv_iload_n hx hb dX7_ownOf_17 rfl (lv_at hl 3 rfl) ?_
        obtain ⟨x2, g3, hf⟩ := bn1_e hf
        refine w_ald hx hb hK hw 9 rfl g3 dX7_ownOf_18 ?_
        refine lv_iload_n hx hb dX7_ownOf_19 rfl (lv_at hl 1 rfl) ?_
        refine lv_icmp_ne (tgt := 29) hx hb dX7_ownOf_20 (by decide) (fun c4 => ?_) (fun c4 => ?_)
        · have hf := if_f c4 hf
          refine lv_iconst (v := 0) hx hb dX7_ownOf_29 (by decide) ?_
          refine lv_ior hx hb dX7_ownOf_30 ?_
          refine lv_istore_n (lv' := [(2, .int (v2 ||| 0)), (0, .ref (o 0)), (1, .int v1), (3, .int v3)]) hx hb dX7_ownOf_31 rfl hl (by decide) rfl (fun ls hl => ?_)
          refine lv_iinc (v := v3 + 1) (lv' := [(3, .int (v3 + 1)), (2, .int (v2 ||| 0)), (0, .ref (o 0)), (1, .int v1)]) hx hb dX7_ownOf_32 hl (k := 3) rfl (by rfl) (by decide) rfl (fun ls hl => ?_)
          refine lv_goto (tgt := 4) hx hb dX7_ownOf_35 (by decide) ?_
          exact ih (v2 ||| 0) (v3 + 1) hf H locs ls hw (lv_sub hl [2, 3, 1, 0] rfl)
        · have hf := if_t c4 hf
          refine lv_iconst (v := 1) hx hb dX7_ownOf_23 (by decide) ?_
          refine lv_iload_n hx hb dX7_ownOf_24 rfl (lv_at hl 3 rfl) ?_
          refine lv_ishl hx hb dX7_ownOf_25 ?_
          refine lv_goto (tgt := 30) hx hb dX7_ownOf_26 (by decide) ?_
          refine lv_ior hx hb dX7_ownOf_30 ?_
          obtain ⟨y5, e6, hf⟩ := bn1_e hf
          refine w_nmi (sm1 e6) ?_
          refine lv_istore_n (lv' := [(2, .int y5), (0, .ref (o 0)), (1, .int v1), (3, .int v3)]) hx hb dX7_ownOf_31 rfl hl (by decide) rfl (fun ls hl => ?_)
          refine lv_iinc (v := v3 + 1) (lv' := [(3, .int (v3 + 1)), (2, .int y5), (0, .ref (o 0)), (1, .int v1)]) hx hb dX7_ownOf_32 hl (k := 3) rfl (by rfl) (by decide) rfl (fun ls hl => ?_)
          refine lv_goto (tgt := 4) hx hb dX7_ownOf_35 (by decide) ?_
          exact ih y5 (v3 + 1) hf H locs ls hw (lv_sub hl [2, 3, 1, 0] rfl)
  unfold f_X7_ownOf at hf
  obtain ⟨H, hH⟩ : ∃ H, H = s.heap := ⟨_, rfl⟩
  obtain ⟨locs, hlc⟩ : ∃ locs : List Loc, locs = [] := ⟨_, rfl⟩
  have hw : Wd D A s.heap H locs (wX7 o cA oM) := by rw [hH, hlc]; exact hw
  have goal : W p l e rmX7_ownOf s m ([.ref (o 0), .int a1] : List Value).toArray below meth c H locs 0 0 Q (F0 m 0 ls []) := by
    clear hH hlc
    refine lv_iconst (v := 0) hx hb dX7_ownOf_0 (by decide) ?_
    refine lv_istore_n (lv' := [(2, .int 0), (0, .ref (o 0)), (1, .int a1)]) hx hb dX7_ownOf_1 rfl hl (by decide) rfl (fun ls hl => ?_)
    refine lv_iconst (v := 0) hx hb dX7_ownOf_2 (by decide) ?_
    refine lv_istore_n (lv' := [(3, .int 0), (2, .int 0), (0, .ref (o 0)), (1, .int a1)]) hx hb dX7_ownOf_3 rfl hl (by decide) rfl (fun ls hl => ?_)
    exact h_L4 a1 _ 0 0 hf H locs ls hw (lv_sub hl [2, 3, 1, 0] rfl)
  rw [hH, hlc] at goal
  exact goal
abbrev rmX7_poorest : Room := { frames := 1, cells := 0, slots := 0, locals := 23 }
theorem hd_X7_poorest : yX7_poorest.cls = RX7 ∧ yX7_poorest.cls ≠ "java/lang/invoke/MethodHandle" ∧ yX7_poorest.cls ≠ "java/lang/invoke/VarHandle" ∧ (parseMethodDescriptor yX7_poorest.desc).map (fun d => d.parameters.length) = some 0 := by decide +kernel
set_option maxHeartbeats 4000000 in
set_option maxRecDepth 100000 in
theorem k_X7_poorest (l : Launch) (D : va_G) (cA : ClassId) (o : Nat → Nat) (oM : St) (r : Int32) (hf : f_X7_poorest oM = some (r)) : Mi l yX7_poorest wsX7_poorest rmX7_poorest D cA z_0 [.ref (o 0)] (wX7 o cA oM) r (wX7 o cA oM) := by
  refine Mi.of (cc := cX7_poorest) (maxL := 5) (ret := (some .int)) (plainFor_of_name (by decide)) rfl (Nat.le_of_ble_eq_true rfl) (Or.inl rfl) ?_
  intro p e s m below meth c A Q hx hb hml hown hts hK hA hZ hret ls hl hw
  replace hown : s.vm.findClass RX7 = some m.cls := hown
  have hl : lv_has ls 5 [(0, .ref (o 0))] := hl
  have hZo := z_0_ok
  have hi7 : ∀ w ∈ wsX70, w ∈ wsX7_poorest := fun w h => List.mem_cons_of_mem _ (List.mem_append_right _ h)
  have q0 := hts (.fieldLink RX7 319 "ArcRingsModel" "rings" "I") (by decide +kernel)
  have q1 := hts (.fieldLink RX7 22 "ArcRingsModel" "bounds" "[I") (by decide +kernel)
  have h_L4 : ∀ (n : Nat) (v1 : Int32) (v2 : Int32), f_X7_poorest_L4 oM n v1 v2 = some (r) → ∀ (H : Heap) (locs : List Loc) (ls : Array Slot), Wd D A s.heap H locs (wX7 o cA oM) → lv_has ls 5 [(0, .ref (o 0)), (1, .int v1), (2, .int v2)] → W p l e rmX7_poorest s m ([.ref (o 0)] : List Value).toArray below meth c H locs 0 0 Q (F0 m 4 ls []) := by
    intro n
    induction n with
    | zero =>
      intro v1 v2 hf
      have hf : none = some (r) := hf
      cases hf
    | succ n ih =>
      intro v1 v2 hf H locs ls hw hl
      have hf := (f_X7_poorest_L4_s oM n v1 v2).symm.trans hf
      refine lv_iload_n hx hb dX7_poorest_4 rfl (lv_at hl 2 rfl) ?_
      refine lv_aload_n hx hb dX7_poorest_5 rfl (lv_at hl 0 rfl) ?_
      refine w_get hx hb hts hi7 hown hK hw 0 rfl rfl 11 (by decide) q0 rfl (v := .int (oM.1 11)) rfl dX7_poorest_6 ?_
      refine lv_icmp_ge (tgt := 72) hx hb dX7_poorest_9 (by decide) (fun c1 => ?_) (fun c1 => ?_)
      · have hf := if_t c1 hf
        refine lv_iload_n hx hb dX7_poorest_72 rfl (lv_at hl 1 rfl) ?_
        have e0_ := sm1 hf
        exact hret _ _ _ _ _ hw e0_ (Or.inl rfl) dX7_poorest_73
      · have hf := if_f c1 hf
        refine lv_aload_n hx hb dX7_poorest_12 rfl (lv_at hl 0 rfl) ?_
        refine lv_iload_n hx hb dX7_poorest_13 rfl (lv_at hl 2 rfl) ?_
        obtain ⟨x2, g3, hf⟩ := bn1_e hf
        have fr := fr_X7_X7_oM o cA oM oM
        refine go_i (run_v (As := [.int v2]) (rest := []) ⟨hx, hb, hml, hown, hts⟩ (k_X7_ownOf l D cA o oM v2 x2 g3 H.size) (cwV 1 hts gX7_poorest_X7_ownOf rfl rfl rfl hd_X7_ownOf ⟨Nat.le_of_ble_eq_true rfl, Nat.le_of_ble_eq_true rfl⟩) fr hw hK hA hZo hZ (ci := 7) rfl rfl rfl rfl hl.1 rfl (Nat.le_of_ble_eq_true rfl) dX7_poorest_14 ⟨Nat.zero_le _, Nat.zero_le _⟩) fr hw hA (fun H locs hw => ?_)
        obtain ⟨x4, g5, hf⟩ := bn1_e hf
        have fr := fr_X7_S o cA oM
        refine go_i (run_s (As := [.int x2]) (rest := []) ⟨hx, hb, hml, hown, hts⟩ (k_X7_size l D cA x2 x4 g5 H.size) (va_cwS 1 hts gX7_poorest_X7_size rfl rfl rfl hd_X7_size ⟨Nat.le_of_ble_eq_true rfl, Nat.le_of_ble_eq_true rfl⟩) fr hw hK hA rfl hl.1 rfl (Nat.le_of_ble_eq_true rfl) dX7_poorest_17 ⟨Nat.zero_le _, Nat.zero_le _⟩) fr hw hA (fun H locs hw => ?_)
        refine lv_istore_n (lv' := [(3, .int x4), (0, .ref (o 0)), (1, .int v1), (2, .int v2)]) hx hb dX7_poorest_20 rfl hl (by decide) rfl (fun ls hl => ?_)
        refine lv_iload_n hx hb dX7_poorest_21 rfl (lv_at hl 0 rfl) ?_
        refine lv_aload_n hx hb dX7_poorest_22 rfl (lv_at hl 1 rfl) ?_
        refine w_get hx hb hts hi7 hown hK hw 0 rfl rfl 9 (by decide) q1 rfl (v := .ref (o 5)) rfl dX7_poorest_23 ?_
        refine lv_iconst (v := 3) hx hb dX7_poorest_26 (by decide) ?_
        obtain ⟨x6, g7, hf⟩ := bn1_e hf
        refine w_ald hx hb hK hw 5 rfl g7 dX7_poorest_27 ?_
        refine lv_icmp_ge (tgt := 52) hx hb dX7_poorest_28 (by decide) (fun c8 => ?_) (fun c8 => ?_)
        · have hf := if_t c8 hf
          refine lv_iconst (v := 0) hx hb dX7_poorest_52 (by decide) ?_
          refine lv_istore (lv' := [(4, .int 0), (3, .int x4), (0, .ref (o 0)), (1, .int v1), (2, .int v2)]) hx hb dX7_poorest_53 hl (by decide) rfl (fun ls hl => ?_)
          refine lv_iload hx hb dX7_poorest_55 (lv_at hl 0 rfl) ?_
          refine lv_if_eq (tgt := 64) hx hb dX7_poorest_57 (by decide) (fun c9 => ?_) (fun c9 => ?_)
          rotate_left
          · exact absurd c9 (by decide)
          refine lv_iload_n hx hb dX7_poorest_64 rfl (lv_at hl 3 rfl) ?_
          refine lv_istore_n (lv' := [(1, .int v1), (4, .int 0), (3, .int x4), (0, .ref (o 0)), (2, .int v2)]) hx hb dX7_poorest_65 rfl hl (by decide) rfl (fun ls hl => ?_)
          refine lv_iinc (v := v2 + 1) (lv' := [(2, .int (v2 + 1)), (1, .int v1), (4, .int 0), (3, .int x4), (0, .ref (o 0))]) hx hb dX7_poorest_66 hl (k := 4) rfl (by rfl) (by decide) rfl (fun ls hl => ?_)
          refine lv_goto (tgt := 4) hx hb dX7_poorest_69 (by decide) ?_
          exact ih v1 (v2 + 1) hf H locs ls hw (lv_sub hl [4, 1, 0] rfl)
        · have hf := if_f c8 hf
          refine lv_iload_n hx hb dX7_poorest_31 rfl (lv_at hl 2 rfl) ?_
          refine lv_iconst (v := (-1)) hx hb dX7_poorest_32 (by decide) ?_
          refine lv_icmp_eq (tgt := 48) hx hb dX7_poorest_33 (by decide) (fun c10 => ?_) (fun c10 => ?_)
          · have hf := if_t c10 hf
            refine lv_iconst (v := 1) hx hb dX7_poorest_48 (by decide) ?_
            refine lv_goto (tgt := 53) hx hb dX7_poorest_49 (by decide) ?_
            refine lv_istore (lv' := [(4, .int 1), (3, .int x4), (0, .ref (o 0)), (1, .int v1), (2, .int v2)]) hx hb dX7_poorest_53 hl (by decide) rfl (fun ls hl => ?_)
            refine lv_iload hx hb dX7_poorest_55 (lv_at hl 0 rfl) ?_
            refine lv_if_eq (tgt := 64) hx hb dX7_poorest_57 (by decide) (fun c11 => ?_) (fun c11 => ?_)
            · exact absurd c11 (by decide)
            refine lv_iload_n hx hb dX7_poorest_60 rfl (lv_at hl 4 rfl) ?_
            refine lv_goto (tgt := 65) hx hb dX7_poorest_61 (by decide) ?_
            refine lv_istore_n (lv' := [(1, .int v2), (4, .int 1), (3, .int x4), (0, .ref (o 0)), (2, .int v2)]) hx hb dX7_poorest_65 rfl hl (by decide) rfl (fun ls hl => ?_)
            refine lv_iinc (v := v2 + 1) (lv' := [(2, .int (v2 + 1)), (1, .int v2), (4, .int 1), (3, .int x4), (0, .ref (o 0))]) hx hb dX7_poorest_66 hl (k := 4) rfl (by rfl) (by decide) rfl (fun ls hl => ?_)
            refine lv_goto (tgt := 4) hx hb dX7_poorest_69 (by decide) ?_
            exact ih v2 (v2 + 1) hf H locs ls hw (lv_sub hl [4, 1, 0] rfl)
          · have hf := if_f c10 hf
            refine lv_iload_n hx hb dX7_poorest_36 rfl (lv_at hl 0 rfl) ?_
            refine lv_aload_n hx hb dX7_poorest_37 rfl (lv_at hl 1 rfl) ?_
            refine lv_iload_n hx hb dX7_poorest_38 rfl (lv_at hl 2 rfl) ?_
            obtain ⟨x12, g13, hf⟩ := bn1_e hf
            have fr := fr_X7_X7_oM o cA oM oM
            refine go_i (run_v (As := [.int v1]) (rest := [.int x4]) ⟨hx, hb, hml, hown, hts⟩ (k_X7_ownOf l D cA o oM v1 x12 g13 H.size) (cwV 1 hts gX7_poorest_X7_ownOf rfl rfl rfl hd_X7_ownOf ⟨Nat.le_of_ble_eq_true rfl, Nat.le_of_ble_eq_true rfl⟩) fr hw hK hA hZo hZ (ci := 7) rfl rfl rfl rfl hl.1 rfl (Nat.le_of_ble_eq_true rfl) dX7_poorest_39 ⟨Nat.zero_le _, Nat.zero_le _⟩) fr hw hA (fun H locs hw => ?_)
            obtain ⟨x14, g15, hf⟩ := bn1_e hf
            have fr := fr_X7_S o cA oM
            refine go_i (run_s (As := [.int x12]) (rest := [.int x4]) ⟨hx, hb, hml, hown, hts⟩ (k_X7_size l D cA x12 x14 g15 H.size) (va_cwS 1 hts gX7_poorest_X7_size rfl rfl rfl hd_X7_size ⟨Nat.le_of_ble_eq_true rfl, Nat.le_of_ble_eq_true rfl⟩) fr hw hK hA rfl hl.1 rfl (Nat.le_of_ble_eq_true rfl) dX7_poorest_42 ⟨Nat.zero_le _, Nat.zero_le _⟩) fr hw hA (fun H locs hw => ?_)
            refine lv_icmp_gt (tgt := 52) hx hb dX7_poorest_45 (by decide) (fun c16 => ?_) (fun c16 => ?_)
            · have hf := if_t c16 hf
              refine lv_iconst (v := 0) hx hb dX7_poorest_52 (by decide) ?_
              refine lv_istore (lv' := [(4, .int 0), (3, .int x4), (0, .ref (o 0)), (1, .int v1), (2, .int v2)]) hx hb dX7_poorest_53 hl (by decide) rfl (fun ls hl => ?_)
              refine lv_iload hx hb dX7_poorest_55 (lv_at hl 0 rfl) ?_
              refine lv_if_eq (tgt := 64) hx hb dX7_poorest_57 (by decide) (fun c17 => ?_) (fun c17 => ?_)
              rotate_left
              · exact absurd c17 (by decide)
              refine lv_iload_n hx hb dX7_poorest_64 rfl (lv_at hl 3 rfl) ?_
              refine lv_istore_n (lv' := [(1, .int v1), (4, .int 0), (3, .int x4), (0, .ref (o 0)), (2, .int v2)]) hx hb dX7_poorest_65 rfl hl (by decide) rfl (fun ls hl => ?_)
              refine lv_iinc (v := v2 + 1) (lv' := [(2, .int (v2 + 1)), (1, .int v1), (4, .int 0), (3, .int x4), (0, .ref (o 0))]) hx hb dX7_poorest_66 hl (k := 4) rfl (by rfl) (by decide) rfl (fun ls hl => ?_)
              refine lv_goto (tgt := 4) hx hb dX7_poorest_69 (by decide) ?_
              exact ih v1 (v2 + 1) hf H locs ls hw (lv_sub hl [4, 1, 0] rfl)
            · have hf := if_f c16 hf
              refine lv_iconst (v := 1) hx hb dX7_poorest_48 (by decide) ?_
              refine lv_goto (tgt := 53) hx hb dX7_poorest_49 (by decide) ?_
              refine lv_istore (lv' := [(4, .int 1), (3, .int x4), (0, .ref (o 0)), (1, .int v1), (2, .int v2)]) hx hb dX7_poorest_53 hl (by decide) rfl (fun ls hl => ?_)
              refine lv_iload hx hb dX7_poorest_55 (lv_at hl 0 rfl) ?_
              refine lv_if_eq (tgt := 64) hx hb dX7_poorest_57 (by decide) (fun c18 => ?_) (fun c18 => ?_)
              · exact absurd c18 (by decide)
              refine lv_iload_n hx hb dX7_poorest_60 rfl (lv_at hl 4 rfl) ?_
              refine lv_goto (tgt := 65) hx hb dX7_poorest_61 (by decide) ?_
              refine lv_istore_n (lv' := [(1, .int v2), (4, .int 1), (3, .int x4), (0, .ref (o 0)), (2, .int v2)]) hx hb dX7_poorest_65 rfl hl (by decide) rfl (fun ls hl => ?_)
              refine lv_iinc (v := v2 + 1) (lv' := [(2, .int (v2 + 1)), (1, .int v2), (4, .int 1), (3, .int x4), (0, .ref (o 0))]) hx hb dX7_poorest_66 hl (k := 4) rfl (by rfl) (by decide) rfl (fun ls hl => ?_)
              refine lv_goto (tgt := 4) hx hb dX7_poorest_69 (by decide) ?_
              exact ih v2 (v2 + 1) hf H locs ls hw (lv_sub hl [4, 1, 0] rfl)
  unfold f_X7_poorest at hf
  obtain ⟨H, hH⟩ : ∃ H, H = s.heap := ⟨_, rfl⟩
  obtain ⟨locs, hlc⟩ : ∃ locs : List Loc, locs = [] := ⟨_, rfl⟩
  have hw : Wd D A s.heap H locs (wX7 o cA oM) := by rw [hH, hlc]; exact hw
  have goal : W p l e rmX7_poorest s m ([.ref (o 0)] : List Value).toArray below meth c H locs 0 0 Q (F0 m 0 ls []) := by
    clear hH hlc
    refine lv_iconst (v := (-1)) hx hb dX7_poorest_0 (by decide) ?_
    refine lv_istore_n (lv' := [(1, .int ((-1))), (0, .ref (o 0))]) hx hb dX7_poorest_1 rfl hl (by decide) rfl (fun ls hl => ?_)
    refine lv_iconst (v := 0) hx hb dX7_poorest_2 (by decide) ?_
    refine lv_istore_n (lv' := [(2, .int 0), (1, .int ((-1))), (0, .ref (o 0))]) hx hb dX7_poorest_3 rfl hl (by decide) rfl (fun ls hl => ?_)
    exact h_L4  _ ((-1)) 0 hf H locs ls hw (lv_sub hl [2, 1, 0] rfl)
  rw [hH, hlc] at goal
  exact goal
abbrev rmX7_tellOff : Room := { frames := 4, cells := 0, slots := 0, locals := 108 }
theorem hd_X7_tellOff : yX7_tellOff.cls = RX7 ∧ yX7_tellOff.cls ≠ "java/lang/invoke/MethodHandle" ∧ yX7_tellOff.cls ≠ "java/lang/invoke/VarHandle" ∧ (parseMethodDescriptor yX7_tellOff.desc).map (fun d => d.parameters.length) = some 0 := by decide +kernel
set_option maxHeartbeats 4000000 in
set_option maxRecDepth 100000 in
theorem k_X7_tellOff (l : Launch) (D : va_G) (cA : ClassId) (o : Nat → Nat) (oM : St) (oM' : St) (hf : f_X7_tellOff oM = some (oM')) : Mv l yX7_tellOff wsX7_tellOff rmX7_tellOff D cA z_0 [.ref (o 0)] (wX7 o cA oM) (wX7 o cA oM') := by
  refine Mv.of (cc := cX7_tellOff) (maxL := 2) (by decide) rfl (Nat.le_of_ble_eq_true rfl) ?_
  intro p e s m below meth c A Q hx hb hml hown hts hK hA hZ hret ls hl hw
  replace hown : s.vm.findClass RX7 = some m.cls := hown
  have hl : lv_has ls 2 [(0, .ref (o 0))] := hl
  have hZo := z_0_ok
  have hi7 : ∀ w ∈ wsX70, w ∈ wsX7_tellOff := fun w h => List.mem_cons_of_mem _ (List.mem_append_right _ h)
  have q0 := hts (.fieldLink RX7 121 "ArcRingsModel" "dots" "I") (by decide +kernel)
  have q1 := hts (.fieldLink RX7 34 "ArcRingsModel" "ownRing" "[I") (by decide +kernel)
  have h_L2 : ∀ (n : Nat) (v1 : Int32) (oM : St), f_X7_tellOff_L2  n v1 oM = some (oM') → ∀ (H : Heap) (locs : List Loc) (ls : Array Slot), Wd D A s.heap H locs (wX7 o cA oM) → lv_has ls 2 [(0, .ref (o 0)), (1, .int v1)] → W p l e rmX7_tellOff s m ([.ref (o 0)] : List Value).toArray below meth c H locs 0 0 Q (F0 m 2 ls []) := by
    intro n
    induction n with
    | zero =>
      intro v1 oM hf
      have hf : none = some (oM') := hf
      cases hf
    | succ n ih =>
      intro v1 oM hf H locs ls hw hl
      have hf := (f_X7_tellOff_L2_s  n v1 oM).symm.trans hf
      refine lv_iload_n hx hb dX7_tellOff_2 rfl (lv_at hl 1 rfl) ?_
      refine lv_aload_n hx hb dX7_tellOff_3 rfl (lv_at hl 0 rfl) ?_
      refine w_get hx hb hts hi7 hown hK hw 0 rfl rfl 5 (by decide) q0 rfl (v := .int (oM.1 5)) rfl dX7_tellOff_4 ?_
      refine lv_icmp_ge (tgt := 27) hx hb dX7_tellOff_7 (by decide) (fun c1 => ?_) (fun c1 => ?_)
      · have hf := if_t c1 hf
        have e0_ := sm1 hf
        exact hret _ _ _ _ (by rw [← e0_]; exact hw) dX7_tellOff_27
      · have hf := if_f c1 hf
        refine lv_aload_n hx hb dX7_tellOff_10 rfl (lv_at hl 0 rfl) ?_
        refine w_get hx hb hts hi7 hown hK hw 0 rfl rfl 15 (by decide) q1 rfl (v := .ref (o 9)) rfl dX7_tellOff_11 ?_
        refine lv_iload_n hx hb dX7_tellOff_14 rfl (lv_at hl 1 rfl) ?_
        refine lv_aload_n hx hb dX7_tellOff_15 rfl (lv_at hl 0 rfl) ?_
        refine lv_iload_n hx hb dX7_tellOff_16 rfl (lv_at hl 1 rfl) ?_
        obtain ⟨x2, g3, hf⟩ := bn1_e hf
        have fr := fr_X7_X7_oM o cA oM oM
        refine go_i (run_v (As := [.int v1]) (rest := [.int v1, .ref (o 9)]) ⟨hx, hb, hml, hown, hts⟩ (k_X7_nearestRing l D cA o oM v1 x2 g3 H.size) (cwV 1 hts gX7_tellOff_X7_nearestRing rfl rfl rfl hd_X7_nearestRing ⟨Nat.le_of_ble_eq_true rfl, Nat.le_of_ble_eq_true rfl⟩) fr hw hK hA hZo hZ (ci := 7) rfl rfl rfl rfl hl.1 rfl (Nat.le_of_ble_eq_true rfl) dX7_tellOff_17 ⟨Nat.zero_le _, Nat.zero_le _⟩) fr hw hA (fun H locs hw => ?_)
        obtain ⟨oM5, g4, hf⟩ := bn1_e hf
        refine w_aws hx hb hK hw 9 rfl g4 (fun z => (wX7 o cA z)) (fun _ => rfl) dX7_tellOff_20 (fun H locs hw => ?_)
        refine lv_iinc (v := v1 + 1) (lv' := [(1, .int (v1 + 1)), (0, .ref (o 0))]) hx hb dX7_tellOff_21 hl (k := 1) rfl (by rfl) (by decide) rfl (fun ls hl => ?_)
        refine lv_goto (tgt := 2) hx hb dX7_tellOff_24 (by decide) ?_
        exact ih (v1 + 1) oM5 hf H locs ls hw (lv_sub hl [1, 0] rfl)
  unfold f_X7_tellOff at hf
  obtain ⟨H, hH⟩ : ∃ H, H = s.heap := ⟨_, rfl⟩
  obtain ⟨locs, hlc⟩ : ∃ locs : List Loc, locs = [] := ⟨_, rfl⟩
  have hw : Wd D A s.heap H locs (wX7 o cA oM) := by rw [hH, hlc]; exact hw
  have goal : W p l e rmX7_tellOff s m ([.ref (o 0)] : List Value).toArray below meth c H locs 0 0 Q (F0 m 0 ls []) := by
    clear hH hlc
    refine lv_iconst (v := 0) hx hb dX7_tellOff_0 (by decide) ?_
    refine lv_istore_n (lv' := [(1, .int 0), (0, .ref (o 0))]) hx hb dX7_tellOff_1 rfl hl (by decide) rfl (fun ls hl => ?_)
    exact h_L2  _ 0 oM hf H locs ls hw (lv_sub hl [1, 0] rfl)
  rw [hH, hlc] at goal
  exact goal
abbrev rmX7_splitNow : Room := { frames := 5, cells := 0, slots := 0, locals := 129 }
theorem hd_X7_splitNow : yX7_splitNow.cls = RX7 ∧ yX7_splitNow.cls ≠ "java/lang/invoke/MethodHandle" ∧ yX7_splitNow.cls ≠ "java/lang/invoke/VarHandle" ∧ (parseMethodDescriptor yX7_splitNow.desc).map (fun d => d.parameters.length) = some 0 := by decide +kernel
set_option maxHeartbeats 4000000 in
set_option maxRecDepth 100000 in
theorem k_X7_splitNow (l : Launch) (D : va_G) (cA : ClassId) (o : Nat → Nat) (oM : St) (r : Int32) (oM' : St) (hf : f_X7_splitNow oM = some (r, oM')) : Mi l yX7_splitNow wsX7_splitNow rmX7_splitNow D cA z_0 [.ref (o 0)] (wX7 o cA oM) r (wX7 o cA oM') := by
  refine Mi.of (cc := cX7_splitNow) (maxL := 3) (ret := (some .int)) (plainFor_of_name (by decide)) rfl (Nat.le_of_ble_eq_true rfl) (Or.inl rfl) ?_
  intro p e s m below meth c A Q hx hb hml hown hts hK hA hZ hret ls hl hw
  replace hown : s.vm.findClass RX7 = some m.cls := hown
  have hl : lv_has ls 3 [(0, .ref (o 0))] := hl
  have hZo := z_0_ok
  have hi7 : ∀ w ∈ wsX70, w ∈ wsX7_splitNow := fun w h => List.mem_cons_of_mem _ (List.mem_append_right _ h)
  have q0 := hts (.fieldLink RX7 319 "ArcRingsModel" "rings" "I") (by decide +kernel)
  have q1 := hts (.fieldLink RX7 25 "ArcRingsModel" "ringX" "[I") (by decide +kernel)
  have q2 := hts (.fieldLink RX7 28 "ArcRingsModel" "ringY" "[I") (by decide +kernel)
  have q3 := hts (.fieldLink RX7 31 "ArcRingsModel" "ringR" "[I") (by decide +kernel)
  have q4 := hts (.fieldLink RX7 346 "ArcRingsModel" "givenUp" "I") (by decide +kernel)
  have h_L26 : ∀ (K : St → Option (Int32 × St)), (∀ (z0 : St), K z0 = some (r, oM') → ∀ (H : Heap) (locs : List Loc) (ls : Array Slot), Wd D A s.heap H locs (wX7 o cA z0) → lv_has ls 3 [(0, .ref (o 0))] → W p l e rmX7_splitNow s m ([.ref (o 0)] : List Value).toArray below meth c H locs 0 0 Q (F0 m 82 ls [])) → ∀ (n : Nat) (v2 : Int32) (oM : St), f_X7_splitNow_L26 K n v2 oM = some (r, oM') → ∀ (H : Heap) (locs : List Loc) (ls : Array Slot), Wd D A s.heap H locs (wX7 o cA oM) → lv_has ls 3 [(0, .ref (o 0)), (2, .int v2)] → W p l e rmX7_splitNow s m ([.ref (o 0)] : List Value).toArray below meth c H locs 0 0 Q (F0 m 26 ls []) := by
    intro K hK9 n
    induction n with
    | zero =>
      intro v2 oM hf
      have hf : none = some (r, oM') := hf
      cases hf
    | succ n ih =>
      intro v2 oM hf H locs ls hw hl
      have hf := (f_X7_splitNow_L26_s K n v2 oM).symm.trans hf
      refine lv_iload_n hx hb dX7_splitNow_26 rfl (lv_at hl 1 rfl) ?_
      refine lv_aload_n hx hb dX7_splitNow_27 rfl (lv_at hl 0 rfl) ?_
      refine w_get hx hb hts hi7 hown hK hw 0 rfl rfl 11 (by decide) q0 rfl (v := .int (oM.1 11)) rfl dX7_splitNow_28 ?_
      refine lv_icmp_ge (tgt := 82) hx hb dX7_splitNow_31 (by decide) (fun c6 => ?_) (fun c6 => ?_)
      · have hf := if_t c6 hf
        exact hK9 oM hf H locs ls hw (lv_sub hl [0] rfl)
      · have hf := if_f c6 hf
        refine lv_aload_n hx hb dX7_splitNow_34 rfl (lv_at hl 0 rfl) ?_
        refine w_get hx hb hts hi7 hown hK hw 0 rfl rfl 12 (by decide) q1 rfl (v := .ref (o 6)) rfl dX7_splitNow_35 ?_
        refine lv_iload_n hx hb dX7_splitNow_38 rfl (lv_at hl 1 rfl) ?_
        refine lv_aload_n hx hb dX7_splitNow_39 rfl (lv_at hl 0 rfl) ?_
        refine w_get hx hb hts hi7 hown hK hw 0 rfl rfl 12 (by decide) q1 rfl (v := .ref (o 6)) rfl dX7_splitNow_40 ?_
        refine lv_iload_n hx hb dX7_splitNow_43 rfl (lv_at hl 1 rfl) ?_
        refine lv_iconst (v := 1) hx hb dX7_splitNow_44 (by decide) ?_
        refine lv_iadd hx hb dX7_splitNow_45 ?_
        obtain ⟨x7, g8, hf⟩ := bn1_e hf
        refine w_ald hx hb hK hw 6 rfl g8 dX7_splitNow_46 ?_
        obtain ⟨oM10, g9, hf⟩ := bn1_e hf
        refine w_aws hx hb hK hw 6 rfl g9 (fun z => (wX7 o cA z)) (fun _ => rfl) dX7_splitNow_47 (fun H locs hw => ?_)
        refine lv_aload_n hx hb dX7_splitNow_48 rfl (lv_at hl 0 rfl) ?_
        refine w_get hx hb hts hi7 hown hK hw 0 rfl rfl 13 (by decide) q2 rfl (v := .ref (o 7)) rfl dX7_splitNow_49 ?_
        refine lv_iload_n hx hb dX7_splitNow_52 rfl (lv_at hl 1 rfl) ?_
        refine lv_aload_n hx hb dX7_splitNow_53 rfl (lv_at hl 0 rfl) ?_
        refine w_get hx hb hts hi7 hown hK hw 0 rfl rfl 13 (by decide) q2 rfl (v := .ref (o 7)) rfl dX7_splitNow_54 ?_
        refine lv_iload_n hx hb dX7_splitNow_57 rfl (lv_at hl 1 rfl) ?_
        refine lv_iconst (v := 1) hx hb dX7_splitNow_58 (by decide) ?_
        refine lv_iadd hx hb dX7_splitNow_59 ?_
        obtain ⟨x11, g12, hf⟩ := bn1_e hf
        refine w_ald hx hb hK hw 7 rfl g12 dX7_splitNow_60 ?_
        obtain ⟨oM14, g13, hf⟩ := bn1_e hf
        refine w_aws hx hb hK hw 7 rfl g13 (fun z => (wX7 o cA z)) (fun _ => rfl) dX7_splitNow_61 (fun H locs hw => ?_)
        refine lv_aload_n hx hb dX7_splitNow_62 rfl (lv_at hl 0 rfl) ?_
        refine w_get hx hb hts hi7 hown hK hw 0 rfl rfl 14 (by decide) q3 rfl (v := .ref (o 8)) rfl dX7_splitNow_63 ?_
        refine lv_iload_n hx hb dX7_splitNow_66 rfl (lv_at hl 1 rfl) ?_
        refine lv_aload_n hx hb dX7_splitNow_67 rfl (lv_at hl 0 rfl) ?_
        refine w_get hx hb hts hi7 hown hK hw 0 rfl rfl 14 (by decide) q3 rfl (v := .ref (o 8)) rfl dX7_splitNow_68 ?_
        refine lv_iload_n hx hb dX7_splitNow_71 rfl (lv_at hl 1 rfl) ?_
        refine lv_iconst (v := 1) hx hb dX7_splitNow_72 (by decide) ?_
        refine lv_iadd hx hb dX7_splitNow_73 ?_
        obtain ⟨x15, g16, hf⟩ := bn1_e hf
        refine w_ald hx hb hK hw 8 rfl g16 dX7_splitNow_74 ?_
        obtain ⟨oM18, g17, hf⟩ := bn1_e hf
        refine w_aws hx hb hK hw 8 rfl g17 (fun z => (wX7 o cA z)) (fun _ => rfl) dX7_splitNow_75 (fun H locs hw => ?_)
        refine lv_iinc (v := v2 + 1) (lv' := [(2, .int (v2 + 1)), (0, .ref (o 0))]) hx hb dX7_splitNow_76 hl (k := 1) rfl (by rfl) (by decide) rfl (fun ls hl => ?_)
        refine lv_goto (tgt := 26) hx hb dX7_splitNow_79 (by decide) ?_
        exact ih (v2 + 1) oM18 hf H locs ls hw (lv_sub hl [1, 0] rfl)
  have h_L9 : ∀ (n : Nat) (v1 : Int32) (oM : St), f_X7_splitNow_L9  n v1 oM = some (r, oM') → ∀ (H : Heap) (locs : List Loc) (ls : Array Slot), Wd D A s.heap H locs (wX7 o cA oM) → lv_has ls 3 [(0, .ref (o 0)), (1, .int v1)] → W p l e rmX7_splitNow s m ([.ref (o 0)] : List Value).toArray below meth c H locs 0 0 Q (F0 m 9 ls []) := by
    intro n
    induction n with
    | zero =>
      intro v1 oM hf
      have hf : none = some (r, oM') := hf
      cases hf
    | succ n ih =>
      intro v1 oM hf H locs ls hw hl
      have hf := (f_X7_splitNow_L9_s  n v1 oM).symm.trans hf
      refine lv_iload_n hx hb dX7_splitNow_9 rfl (lv_at hl 1 rfl) ?_
      refine lv_iconst (v := (-1)) hx hb dX7_splitNow_10 (by decide) ?_
      refine lv_icmp_eq (tgt := 104) hx hb dX7_splitNow_11 (by decide) (fun c5 => ?_) (fun c5 => ?_)
      · have hf := if_t c5 hf
        refine lv_aload_n hx hb dX7_splitNow_104 rfl (lv_at hl 0 rfl) ?_
        refine w_get hx hb hts hi7 hown hK hw 0 rfl rfl 11 (by decide) q0 rfl (v := .int (oM.1 11)) rfl dX7_splitNow_105 ?_
        obtain ⟨e0_, e1_⟩ := sm2 hf
        exact hret _ _ _ _ _ (by rw [← e1_]; exact hw) e0_ (Or.inl rfl) dX7_splitNow_108
      · have hf := if_f c5 hf
        refine lv_aload_n hx hb dX7_splitNow_14 rfl (lv_at hl 0 rfl) ?_
        refine lv_dup hx hb dX7_splitNow_15 rfl ?_
        refine w_get hx hb hts hi7 hown hK hw 0 rfl rfl 11 (by decide) q0 rfl (v := .int (oM.1 11)) rfl dX7_splitNow_16 ?_
        refine lv_iconst (v := 1) hx hb dX7_splitNow_19 (by decide) ?_
        refine lv_isub hx hb dX7_splitNow_20 ?_
        refine w_put (ws' := (wX7 o cA ((sI oM 11 ((oM.1 11) - 1))))) hx hb hts hi7 tyX7 tyX7_ok nmX7 hown hK hw 0 rfl rfl 11 (by decide) q0 rfl rfl rfl rfl (Nat.le_of_ble_eq_true rfl) rfl dX7_splitNow_21 (fun H locs hw => ?_)
        refine lv_iload_n hx hb dX7_splitNow_24 rfl (lv_at hl 1 rfl) ?_
        refine lv_istore_n (lv' := [(2, .int v1), (0, .ref (o 0)), (1, .int v1)]) hx hb dX7_splitNow_25 rfl hl (by decide) rfl (fun ls hl => ?_)
        refine h_L26  _ ?_ _ v1 ((sI oM 11 ((oM.1 11) - 1))) hf H locs ls hw (lv_sub hl [1, 0] rfl)
        intro oM19 hf H locs ls hw hl
        refine lv_aload_n hx hb dX7_splitNow_82 rfl (lv_at hl 0 rfl) ?_
        refine lv_dup hx hb dX7_splitNow_83 rfl ?_
        refine w_get hx hb hts hi7 hown hK hw 0 rfl rfl 17 (by decide) q4 rfl (v := .int (oM19.1 17)) rfl dX7_splitNow_84 ?_
        refine lv_iconst (v := 1) hx hb dX7_splitNow_87 (by decide) ?_
        refine lv_iadd hx hb dX7_splitNow_88 ?_
        refine w_put (ws' := (wX7 o cA ((sI oM19 17 ((oM19.1 17) + 1))))) hx hb hts hi7 tyX7 tyX7_ok nmX7 hown hK hw 0 rfl rfl 17 (by decide) q4 rfl rfl rfl rfl (Nat.le_of_ble_eq_true rfl) rfl dX7_splitNow_89 (fun H locs hw => ?_)
        refine lv_aload_n hx hb dX7_splitNow_92 rfl (lv_at hl 0 rfl) ?_
        obtain ⟨oM20, g21, hf⟩ := bn1_e hf
        have fr := fr_X7_X7_oM o cA ((sI oM19 17 ((oM19.1 17) + 1))) oM20
        refine go_v (run_v (As := []) (rest := []) ⟨hx, hb, hml, hown, hts⟩ (k_X7_tellOff l D cA o ((sI oM19 17 ((oM19.1 17) + 1))) oM20 g21 H.size) (cwV 0 hts gX7_splitNow_X7_tellOff rfl rfl rfl hd_X7_tellOff ⟨Nat.le_of_ble_eq_true rfl, Nat.le_of_ble_eq_true rfl⟩) fr hw hK hA hZo hZ (ci := 7) rfl rfl rfl rfl hl.1 rfl (Nat.le_of_ble_eq_true rfl) dX7_splitNow_93 ⟨Nat.zero_le _, Nat.zero_le _⟩) fr hw hA (fun H locs hw => ?_)
        refine lv_aload_n hx hb dX7_splitNow_96 rfl (lv_at hl 0 rfl) ?_
        obtain ⟨x22, g23, hf⟩ := bn1_e hf
        have fr := fr_X7_X7_oM o cA oM20 oM20
        refine go_i (run_v (As := []) (rest := []) ⟨hx, hb, hml, hown, hts⟩ (k_X7_poorest l D cA o oM20 x22 g23 H.size) (cwV 0 hts gX7_splitNow_X7_poorest rfl rfl rfl hd_X7_poorest ⟨Nat.le_of_ble_eq_true rfl, Nat.le_of_ble_eq_true rfl⟩) fr hw hK hA hZo hZ (ci := 7) rfl rfl rfl rfl hl.1 rfl (Nat.le_of_ble_eq_true rfl) dX7_splitNow_97 ⟨Nat.zero_le _, Nat.zero_le _⟩) fr hw hA (fun H locs hw => ?_)
        refine lv_istore_n (lv' := [(1, .int x22), (0, .ref (o 0))]) hx hb dX7_splitNow_100 rfl hl (by decide) rfl (fun ls hl => ?_)
        refine lv_goto (tgt := 9) hx hb dX7_splitNow_101 (by decide) ?_
        exact ih x22 oM20 hf H locs ls hw (lv_sub hl [1, 0] rfl)
  unfold f_X7_splitNow at hf
  obtain ⟨H, hH⟩ : ∃ H, H = s.heap := ⟨_, rfl⟩
  obtain ⟨locs, hlc⟩ : ∃ locs : List Loc, locs = [] := ⟨_, rfl⟩
  have hw : Wd D A s.heap H locs (wX7 o cA oM) := by rw [hH, hlc]; exact hw
  have goal : W p l e rmX7_splitNow s m ([.ref (o 0)] : List Value).toArray below meth c H locs 0 0 Q (F0 m 0 ls []) := by
    clear hH hlc
    refine lv_aload_n hx hb dX7_splitNow_0 rfl (lv_at hl 0 rfl) ?_
    obtain ⟨oM1, g2, hf⟩ := bn1_e hf
    have fr := fr_X7_X7_oM o cA oM oM1
    refine go_v (run_v (As := []) (rest := []) ⟨hx, hb, hml, hown, hts⟩ (k_X7_tellOff l D cA o oM oM1 g2 H.size) (cwV 0 hts gX7_splitNow_X7_tellOff rfl rfl rfl hd_X7_tellOff ⟨Nat.le_of_ble_eq_true rfl, Nat.le_of_ble_eq_true rfl⟩) fr hw hK hA hZo hZ (ci := 7) rfl rfl rfl rfl hl.1 rfl (Nat.le_of_ble_eq_true rfl) dX7_splitNow_1 ⟨Nat.zero_le _, Nat.zero_le _⟩) fr hw hA (fun H locs hw => ?_)
    refine lv_aload_n hx hb dX7_splitNow_4 rfl (lv_at hl 0 rfl) ?_
    obtain ⟨x3, g4, hf⟩ := bn1_e hf
    have fr := fr_X7_X7_oM o cA oM1 oM1
    refine go_i (run_v (As := []) (rest := []) ⟨hx, hb, hml, hown, hts⟩ (k_X7_poorest l D cA o oM1 x3 g4 H.size) (cwV 0 hts gX7_splitNow_X7_poorest rfl rfl rfl hd_X7_poorest ⟨Nat.le_of_ble_eq_true rfl, Nat.le_of_ble_eq_true rfl⟩) fr hw hK hA hZo hZ (ci := 7) rfl rfl rfl rfl hl.1 rfl (Nat.le_of_ble_eq_true rfl) dX7_splitNow_5 ⟨Nat.zero_le _, Nat.zero_le _⟩) fr hw hA (fun H locs hw => ?_)
    refine lv_istore_n (lv' := [(1, .int x3), (0, .ref (o 0))]) hx hb dX7_splitNow_8 rfl hl (by decide) rfl (fun ls hl => ?_)
    exact h_L9  _ x3 oM1 hf H locs ls hw (lv_sub hl [1, 0] rfl)
  rw [hH, hlc] at goal
  exact goal
abbrev rmX7_split : Room := { frames := 6, cells := 0, slots := 0, locals := 151 }
theorem hd_X7_split : yX7_split.cls = RX7 ∧ yX7_split.cls ≠ "java/lang/invoke/MethodHandle" ∧ yX7_split.cls ≠ "java/lang/invoke/VarHandle" ∧ (parseMethodDescriptor yX7_split.desc).map (fun d => d.parameters.length) = some 0 := by decide +kernel
set_option maxHeartbeats 4000000 in
set_option maxRecDepth 100000 in
theorem k_X7_split (l : Launch) (D : va_G) (cA : ClassId) (o : Nat → Nat) (oM : St) (r : Int32) (oM' : St) (hf : f_X7_split oM = some (r, oM')) : Mi l yX7_split wsX7_split rmX7_split D cA z_0 [.ref (o 0)] (wX7 o cA oM) r (wX7 o cA oM') := by
  refine Mi.of (cc := cX7_split) (maxL := 1) (ret := (some .int)) (plainFor_of_name (by decide)) rfl (Nat.le_of_ble_eq_true rfl) (Or.inl rfl) ?_
  intro p e s m below meth c A Q hx hb hml hown hts hK hA hZ hret ls hl hw
  replace hown : s.vm.findClass RX7 = some m.cls := hown
  have hl : lv_has ls 1 [(0, .ref (o 0))] := hl
  have hZo := z_0_ok
  have hi7 : ∀ w ∈ wsX70, w ∈ wsX7_split := fun w h => List.mem_cons_of_mem _ (List.mem_append_right _ h)
  have q0 := hts (.fieldLink RX7 124 "ArcRingsModel" "isHunted" "Z") (by decide +kernel)
  unfold f_X7_split at hf
  obtain ⟨H, hH⟩ : ∃ H, H = s.heap := ⟨_, rfl⟩
  obtain ⟨locs, hlc⟩ : ∃ locs : List Loc, locs = [] := ⟨_, rfl⟩
  have hw : Wd D A s.heap H locs (wX7 o cA oM) := by rw [hH, hlc]; exact hw
  have goal : W p l e rmX7_split s m ([.ref (o 0)] : List Value).toArray below meth c H locs 0 0 Q (F0 m 0 ls []) := by
    clear hH hlc
    refine lv_aload_n hx hb dX7_split_0 rfl (lv_at hl 0 rfl) ?_
    refine w_get hx hb hts hi7 hown hK hw 0 rfl rfl 10 (by decide) q0 rfl (v := .int (oM.1 10)) rfl dX7_split_1 ?_
    refine lv_if_eq (tgt := 14) hx hb dX7_split_4 (by decide) (fun c1 => ?_) (fun c1 => ?_)
    · have hf := if_t c1 hf
      refine lv_bipush (v := (-103)) hx hb dX7_split_14 (by decide) ?_
      obtain ⟨e0_, e1_⟩ := sm2 hf
      exact hret _ _ _ _ _ (by rw [← e1_]; exact hw) e0_ (Or.inl rfl) dX7_split_16
    · have hf := if_f c1 hf
      refine lv_aload_n hx hb dX7_split_7 rfl (lv_at hl 0 rfl) ?_
      obtain ⟨x2, oM3, g4, hf⟩ := bn2_e hf
      have fr := fr_X7_X7_oM o cA oM oM3
      refine go_i (run_v (As := []) (rest := []) ⟨hx, hb, hml, hown, hts⟩ (k_X7_splitNow l D cA o oM x2 oM3 g4 H.size) (cwV 0 hts gX7_split_X7_splitNow rfl rfl rfl hd_X7_splitNow ⟨Nat.le_of_ble_eq_true rfl, Nat.le_of_ble_eq_true rfl⟩) fr hw hK hA hZo hZ (ci := 7) rfl rfl rfl rfl hl.1 rfl (Nat.le_of_ble_eq_true rfl) dX7_split_8 ⟨Nat.zero_le _, Nat.zero_le _⟩) fr hw hA (fun H locs hw => ?_)
      refine lv_goto (tgt := 16) hx hb dX7_split_11 (by decide) ?_
      obtain ⟨e0_, e1_⟩ := sm2 hf
      exact hret _ _ _ _ _ (by rw [← e1_]; exact hw) e0_ (Or.inl rfl) dX7_split_16
  rw [hH, hlc] at goal
  exact goal
abbrev rmX7_isRing : Room := { frames := 1, cells := 0, slots := 0, locals := 22 }
theorem hd_X7_isRing : yX7_isRing.cls = RX7 ∧ yX7_isRing.cls ≠ "java/lang/invoke/MethodHandle" ∧ yX7_isRing.cls ≠ "java/lang/invoke/VarHandle" ∧ (parseMethodDescriptor yX7_isRing.desc).map (fun d => d.parameters.length) = some 1 := by decide +kernel
set_option maxHeartbeats 4000000 in
set_option maxRecDepth 100000 in
theorem k_X7_isRing (l : Launch) (D : va_G) (cA : ClassId) (o : Nat → Nat) (oM : St) (a1 : Int32) (r : Int32) (hf : f_X7_isRing oM a1 = some (r)) : Mi l yX7_isRing wsX7_isRing rmX7_isRing D cA z_0 [.ref (o 0), .int a1] (wX7 o cA oM) r (wX7 o cA oM) := by
  refine Mi.of (cc := cX7_isRing) (maxL := 2) (ret := (some .boolean)) (plainFor_of_name (by decide)) rfl (Nat.le_of_ble_eq_true rfl) (Or.inr rfl) ?_
  intro p e s m below meth c A Q hx hb hml hown hts hK hA hZ hret ls hl hw
  replace hown : s.vm.findClass RX7 = some m.cls := hown
  have hl : lv_has ls 2 [(0, .ref (o 0)), (1, .int a1)] := hl
  have hZo := z_0_ok
  have hi7 : ∀ w ∈ wsX70, w ∈ wsX7_isRing := fun w h => List.mem_cons_of_mem _ (List.mem_append_right _ h)
  have q0 := hts (.fieldLink RX7 124 "ArcRingsModel" "isHunted" "Z") (by decide +kernel)
  have q1 := hts (.fieldLink RX7 319 "ArcRingsModel" "rings" "I") (by decide +kernel)
  unfold f_X7_isRing at hf
  obtain ⟨H, hH⟩ : ∃ H, H = s.heap := ⟨_, rfl⟩
  obtain ⟨locs, hlc⟩ : ∃ locs : List Loc, locs = [] := ⟨_, rfl⟩
  have hw : Wd D A s.heap H locs (wX7 o cA oM) := by rw [hH, hlc]; exact hw
  have goal : W p l e rmX7_isRing s m ([.ref (o 0), .int a1] : List Value).toArray below meth c H locs 0 0 Q (F0 m 0 ls []) := by
    clear hH hlc
    refine lv_aload_n hx hb dX7_isRing_0 rfl (lv_at hl 0 rfl) ?_
    refine w_get hx hb hts hi7 hown hK hw 0 rfl rfl 10 (by decide) q0 rfl (v := .int (oM.1 10)) rfl dX7_isRing_1 ?_
    refine lv_if_eq (tgt := 25) hx hb dX7_isRing_4 (by decide) (fun c1 => ?_) (fun c1 => ?_)
    · have hf := if_t c1 hf
      refine lv_iconst (v := 0) hx hb dX7_isRing_25 (by decide) ?_
      have e0_ := sm1 hf
      exact hret _ _ _ _ _ hw e0_ (Or.inr (Or.inl rfl)) dX7_isRing_26
    · have hf := if_f c1 hf
      refine lv_iload_n hx hb dX7_isRing_7 rfl (lv_at hl 1 rfl) ?_
      refine lv_iconst (v := 0) hx hb dX7_isRing_8 (by decide) ?_
      refine lv_aload_n hx hb dX7_isRing_9 rfl (lv_at hl 0 rfl) ?_
      refine w_get hx hb hts hi7 hown hK hw 0 rfl rfl 11 (by decide) q1 rfl (v := .int (oM.1 11)) rfl dX7_isRing_10 ?_
      refine lv_iconst (v := 1) hx hb dX7_isRing_13 (by decide) ?_
      refine lv_isub hx hb dX7_isRing_14 ?_
      obtain ⟨x2, g3, hf⟩ := bn1_e hf
      have fr := fr_X7_S o cA oM
      refine go_i (run_s (As := [.int a1, .int 0, .int ((oM.1 11) - 1)]) (rest := []) ⟨hx, hb, hml, hown, hts⟩ (k_X7_within l D cA a1 0 ((oM.1 11) - 1) x2 g3 H.size) (va_cwS 3 hts gX7_isRing_X7_within rfl rfl rfl hd_X7_within ⟨Nat.le_of_ble_eq_true rfl, Nat.le_of_ble_eq_true rfl⟩) fr hw hK hA rfl hl.1 rfl (Nat.le_of_ble_eq_true rfl) dX7_isRing_15 ⟨Nat.zero_le _, Nat.zero_le _⟩) fr hw hA (fun H locs hw => ?_)
      refine lv_if_eq (tgt := 25) hx hb dX7_isRing_18 (by decide) (fun c4 => ?_) (fun c4 => ?_)
      · have hf := if_t c4 hf
        refine lv_iconst (v := 0) hx hb dX7_isRing_25 (by decide) ?_
        have e0_ := sm1 hf
        exact hret _ _ _ _ _ hw e0_ (Or.inr (Or.inl rfl)) dX7_isRing_26
      · have hf := if_f c4 hf
        refine lv_iconst (v := 1) hx hb dX7_isRing_21 (by decide) ?_
        refine lv_goto (tgt := 26) hx hb dX7_isRing_22 (by decide) ?_
        have e0_ := sm1 hf
        exact hret _ _ _ _ _ hw e0_ (Or.inr (Or.inr rfl)) dX7_isRing_26
  rw [hH, hlc] at goal
  exact goal
abbrev rmX7_kindOf : Room := { frames := 3, cells := 0, slots := 0, locals := 71 }
theorem hd_X7_kindOf : yX7_kindOf.cls = RX7 ∧ yX7_kindOf.cls ≠ "java/lang/invoke/MethodHandle" ∧ yX7_kindOf.cls ≠ "java/lang/invoke/VarHandle" ∧ (parseMethodDescriptor yX7_kindOf.desc).map (fun d => d.parameters.length) = some 1 := by decide +kernel
set_option maxHeartbeats 4000000 in
set_option maxRecDepth 100000 in
theorem k_X7_kindOf (l : Launch) (D : va_G) (cA : ClassId) (o : Nat → Nat) (oM : St) (a1 : Int32) (r : Int32) (hf : f_X7_kindOf oM a1 = some (r)) : Mi l yX7_kindOf wsX7_kindOf rmX7_kindOf D cA z_0 [.ref (o 0), .int a1] (wX7 o cA oM) r (wX7 o cA oM) := by
  refine Mi.of (cc := cX7_kindOf) (maxL := 2) (ret := (some .int)) (plainFor_of_name (by decide)) rfl (Nat.le_of_ble_eq_true rfl) (Or.inl rfl) ?_
  intro p e s m below meth c A Q hx hb hml hown hts hK hA hZ hret ls hl hw
  replace hown : s.vm.findClass RX7 = some m.cls := hown
  have hl : lv_has ls 2 [(0, .ref (o 0)), (1, .int a1)] := hl
  have hZo := z_0_ok
  have hi7 : ∀ w ∈ wsX70, w ∈ wsX7_kindOf := fun w h => List.mem_cons_of_mem _ (List.mem_append_right _ h)
  have q0 := hts (.fieldLink RX7 25 "ArcRingsModel" "ringX" "[I") (by decide +kernel)
  have q1 := hts (.fieldLink RX7 28 "ArcRingsModel" "ringY" "[I") (by decide +kernel)
  unfold f_X7_kindOf at hf
  obtain ⟨H, hH⟩ : ∃ H, H = s.heap := ⟨_, rfl⟩
  obtain ⟨locs, hlc⟩ : ∃ locs : List Loc, locs = [] := ⟨_, rfl⟩
  have hw : Wd D A s.heap H locs (wX7 o cA oM) := by rw [hH, hlc]; exact hw
  have goal : W p l e rmX7_kindOf s m ([.ref (o 0), .int a1] : List Value).toArray below meth c H locs 0 0 Q (F0 m 0 ls []) := by
    clear hH hlc
    refine lv_aload_n hx hb dX7_kindOf_0 rfl (lv_at hl 0 rfl) ?_
    refine lv_aload_n hx hb dX7_kindOf_1 rfl (lv_at hl 0 rfl) ?_
    refine w_get hx hb hts hi7 hown hK hw 0 rfl rfl 12 (by decide) q0 rfl (v := .ref (o 6)) rfl dX7_kindOf_2 ?_
    refine lv_iload_n hx hb dX7_kindOf_5 rfl (lv_at hl 1 rfl) ?_
    obtain ⟨x1, g2, hf⟩ := bn1_e hf
    refine w_ald hx hb hK hw 6 rfl g2 dX7_kindOf_6 ?_
    refine lv_aload_n hx hb dX7_kindOf_7 rfl (lv_at hl 0 rfl) ?_
    refine w_get hx hb hts hi7 hown hK hw 0 rfl rfl 13 (by decide) q1 rfl (v := .ref (o 7)) rfl dX7_kindOf_8 ?_
    refine lv_iload_n hx hb dX7_kindOf_11 rfl (lv_at hl 1 rfl) ?_
    obtain ⟨x3, g4, hf⟩ := bn1_e hf
    refine w_ald hx hb hK hw 7 rfl g4 dX7_kindOf_12 ?_
    refine lv_aload_n hx hb dX7_kindOf_13 rfl (lv_at hl 0 rfl) ?_
    refine lv_iload_n hx hb dX7_kindOf_14 rfl (lv_at hl 1 rfl) ?_
    obtain ⟨x5, g6, hf⟩ := bn1_e hf
    have fr := fr_X7_X7_oM o cA oM oM
    refine go_i (run_v (As := [.int a1]) (rest := [.int x3, .int x1, .ref (o 0)]) ⟨hx, hb, hml, hown, hts⟩ (k_X7_ownOf l D cA o oM a1 x5 g6 H.size) (cwV 1 hts gX7_kindOf_X7_ownOf rfl rfl rfl hd_X7_ownOf ⟨Nat.le_of_ble_eq_true rfl, Nat.le_of_ble_eq_true rfl⟩) fr hw hK hA hZo hZ (ci := 7) rfl rfl rfl rfl hl.1 rfl (Nat.le_of_ble_eq_true rfl) dX7_kindOf_15 ⟨Nat.zero_le _, Nat.zero_le _⟩) fr hw hA (fun H locs hw => ?_)
    obtain ⟨x7, g8, hf⟩ := bn1_e hf
    have fr := fr_X7_X7_oM o cA oM oM
    refine go_i (run_v (As := [.int x1, .int x3, .int x5]) (rest := []) ⟨hx, hb, hml, hown, hts⟩ (k_X7_spanOf l D cA o oM x1 x3 x5 x7 g8 H.size) (cwV 3 hts gX7_kindOf_X7_spanOf rfl rfl rfl hd_X7_spanOf ⟨Nat.le_of_ble_eq_true rfl, Nat.le_of_ble_eq_true rfl⟩) fr hw hK hA hZo hZ (ci := 7) rfl rfl rfl rfl hl.1 rfl (Nat.le_of_ble_eq_true rfl) dX7_kindOf_18 ⟨Nat.zero_le _, Nat.zero_le _⟩) fr hw hA (fun H locs hw => ?_)
    refine lv_bipush (v := 8) hx hb dX7_kindOf_21 (by decide) ?_
    refine lv_icmp_ne (tgt := 30) hx hb dX7_kindOf_23 (by decide) (fun c9 => ?_) (fun c9 => ?_)
    · have hf := if_f c9 hf
      refine lv_iconst (v := 1) hx hb dX7_kindOf_30 (by decide) ?_
      have e0_ := sm1 hf
      exact hret _ _ _ _ _ hw e0_ (Or.inl rfl) dX7_kindOf_31
    · have hf := if_t c9 hf
      refine lv_iconst (v := 0) hx hb dX7_kindOf_26 (by decide) ?_
      refine lv_goto (tgt := 31) hx hb dX7_kindOf_27 (by decide) ?_
      have e0_ := sm1 hf
      exact hret _ _ _ _ _ hw e0_ (Or.inl rfl) dX7_kindOf_31
  rw [hH, hlc] at goal
  exact goal
abbrev rmX7_ringNow : Room := { frames := 4, cells := 0, slots := 0, locals := 92 }
theorem hd_X7_ringNow : yX7_ringNow.cls = RX7 ∧ yX7_ringNow.cls ≠ "java/lang/invoke/MethodHandle" ∧ yX7_ringNow.cls ≠ "java/lang/invoke/VarHandle" ∧ (parseMethodDescriptor yX7_ringNow.desc).map (fun d => d.parameters.length) = some 2 := by decide +kernel
set_option maxHeartbeats 4000000 in
set_option maxRecDepth 100000 in
theorem k_X7_ringNow (l : Launch) (D : va_G) (cA : ClassId) (o : Nat → Nat) (oM : St) (a1 : Int32) (a2 : Int32) (r : Int32) (hf : f_X7_ringNow oM a1 a2 = some (r)) : Mi l yX7_ringNow wsX7_ringNow rmX7_ringNow D cA z_0 [.ref (o 0), .int a1, .int a2] (wX7 o cA oM) r (wX7 o cA oM) := by
  refine Mi.of (cc := cX7_ringNow) (maxL := 3) (ret := (some .int)) (plainFor_of_name (by decide)) rfl (Nat.le_of_ble_eq_true rfl) (Or.inl rfl) ?_
  intro p e s m below meth c A Q hx hb hml hown hts hK hA hZ hret ls hl hw
  replace hown : s.vm.findClass RX7 = some m.cls := hown
  have hl : lv_has ls 3 [(0, .ref (o 0)), (1, .int a1), (2, .int a2)] := hl
  have hZo := z_0_ok
  have hi7 : ∀ w ∈ wsX70, w ∈ wsX7_ringNow := fun w h => List.mem_cons_of_mem _ (List.mem_append_right _ h)
  have q0 := hts (.fieldLink RX7 25 "ArcRingsModel" "ringX" "[I") (by decide +kernel)
  have q1 := hts (.fieldLink RX7 28 "ArcRingsModel" "ringY" "[I") (by decide +kernel)
  have q2 := hts (.fieldLink RX7 31 "ArcRingsModel" "ringR" "[I") (by decide +kernel)
  unfold f_X7_ringNow at hf
  obtain ⟨H, hH⟩ : ∃ H, H = s.heap := ⟨_, rfl⟩
  obtain ⟨locs, hlc⟩ : ∃ locs : List Loc, locs = [] := ⟨_, rfl⟩
  have hw : Wd D A s.heap H locs (wX7 o cA oM) := by rw [hH, hlc]; exact hw
  have goal : W p l e rmX7_ringNow s m ([.ref (o 0), .int a1, .int a2] : List Value).toArray below meth c H locs 0 0 Q (F0 m 0 ls []) := by
    clear hH hlc
    refine lv_iload_n hx hb dX7_ringNow_0 rfl (lv_at hl 2 rfl) ?_
    by_cases c1 : a2 = 0
    · have hf := if_t c1 hf
      refine lv_tableIn (tgt := 40) hx hb dX7_ringNow_1 (by rw [c1]; decide) (by rw [c1]; decide) (by rw [c1]; rfl) (by decide) ?_
      refine lv_aload_n hx hb dX7_ringNow_40 rfl (lv_at hl 0 rfl) ?_
      refine w_get hx hb hts hi7 hown hK hw 0 rfl rfl 12 (by decide) q0 rfl (v := .ref (o 6)) rfl dX7_ringNow_41 ?_
      refine lv_iload_n hx hb dX7_ringNow_44 rfl (lv_at hl 1 rfl) ?_
      obtain ⟨x2, g3, hf⟩ := bn1_e hf
      refine w_ald hx hb hK hw 6 rfl g3 dX7_ringNow_45 ?_
      have e0_ := sm1 hf
      exact hret _ _ _ _ _ hw e0_ (Or.inl rfl) dX7_ringNow_46
    have hf := if_f c1 hf
    by_cases c4 : a2 = 1
    · have hf := if_t c4 hf
      refine lv_tableIn (tgt := 47) hx hb dX7_ringNow_1 (by rw [c4]; decide) (by rw [c4]; decide) (by rw [c4]; rfl) (by decide) ?_
      refine lv_aload_n hx hb dX7_ringNow_47 rfl (lv_at hl 0 rfl) ?_
      refine w_get hx hb hts hi7 hown hK hw 0 rfl rfl 13 (by decide) q1 rfl (v := .ref (o 7)) rfl dX7_ringNow_48 ?_
      refine lv_iload_n hx hb dX7_ringNow_51 rfl (lv_at hl 1 rfl) ?_
      obtain ⟨x5, g6, hf⟩ := bn1_e hf
      refine w_ald hx hb hK hw 7 rfl g6 dX7_ringNow_52 ?_
      have e0_ := sm1 hf
      exact hret _ _ _ _ _ hw e0_ (Or.inl rfl) dX7_ringNow_53
    have hf := if_f c4 hf
    by_cases c7 : a2 = 2
    · have hf := if_t c7 hf
      refine lv_tableIn (tgt := 54) hx hb dX7_ringNow_1 (by rw [c7]; decide) (by rw [c7]; decide) (by rw [c7]; rfl) (by decide) ?_
      refine lv_aload_n hx hb dX7_ringNow_54 rfl (lv_at hl 0 rfl) ?_
      refine w_get hx hb hts hi7 hown hK hw 0 rfl rfl 14 (by decide) q2 rfl (v := .ref (o 8)) rfl dX7_ringNow_55 ?_
      refine lv_iload_n hx hb dX7_ringNow_58 rfl (lv_at hl 1 rfl) ?_
      obtain ⟨x8, g9, hf⟩ := bn1_e hf
      refine w_ald hx hb hK hw 8 rfl g9 dX7_ringNow_59 ?_
      have e0_ := sm1 hf
      exact hret _ _ _ _ _ hw e0_ (Or.inl rfl) dX7_ringNow_60
    have hf := if_f c7 hf
    by_cases c10 : a2 = 3
    · have hf := if_t c10 hf
      refine lv_tableIn (tgt := 61) hx hb dX7_ringNow_1 (by rw [c10]; decide) (by rw [c10]; decide) (by rw [c10]; rfl) (by decide) ?_
      refine lv_aload_n hx hb dX7_ringNow_61 rfl (lv_at hl 0 rfl) ?_
      refine lv_iload_n hx hb dX7_ringNow_62 rfl (lv_at hl 1 rfl) ?_
      obtain ⟨x11, g12, hf⟩ := bn1_e hf
      have fr := fr_X7_X7_oM o cA oM oM
      refine go_i (run_v (As := [.int a1]) (rest := []) ⟨hx, hb, hml, hown, hts⟩ (k_X7_ownOf l D cA o oM a1 x11 g12 H.size) (cwV 1 hts gX7_ringNow_X7_ownOf rfl rfl rfl hd_X7_ownOf ⟨Nat.le_of_ble_eq_true rfl, Nat.le_of_ble_eq_true rfl⟩) fr hw hK hA hZo hZ (ci := 7) rfl rfl rfl rfl hl.1 rfl (Nat.le_of_ble_eq_true rfl) dX7_ringNow_63 ⟨Nat.zero_le _, Nat.zero_le _⟩) fr hw hA (fun H locs hw => ?_)
      obtain ⟨x13, g14, hf⟩ := bn1_e hf
      have fr := fr_X7_S o cA oM
      refine go_i (run_s (As := [.int x11]) (rest := []) ⟨hx, hb, hml, hown, hts⟩ (k_X7_size l D cA x11 x13 g14 H.size) (va_cwS 1 hts gX7_ringNow_X7_size rfl rfl rfl hd_X7_size ⟨Nat.le_of_ble_eq_true rfl, Nat.le_of_ble_eq_true rfl⟩) fr hw hK hA rfl hl.1 rfl (Nat.le_of_ble_eq_true rfl) dX7_ringNow_66 ⟨Nat.zero_le _, Nat.zero_le _⟩) fr hw hA (fun H locs hw => ?_)
      have e0_ := sm1 hf
      exact hret _ _ _ _ _ hw e0_ (Or.inl rfl) dX7_ringNow_69
    have hf := if_f c10 hf
    by_cases c15 : a2 = 4
    · have hf := if_t c15 hf
      refine lv_tableIn (tgt := 70) hx hb dX7_ringNow_1 (by rw [c15]; decide) (by rw [c15]; decide) (by rw [c15]; rfl) (by decide) ?_
      refine lv_aload_n hx hb dX7_ringNow_70 rfl (lv_at hl 0 rfl) ?_
      refine lv_iload_n hx hb dX7_ringNow_71 rfl (lv_at hl 1 rfl) ?_
      obtain ⟨x16, g17, hf⟩ := bn1_e hf
      have fr := fr_X7_X7_oM o cA oM oM
      refine go_i (run_v (As := [.int a1]) (rest := []) ⟨hx, hb, hml, hown, hts⟩ (k_X7_ownOf l D cA o oM a1 x16 g17 H.size) (cwV 1 hts gX7_ringNow_X7_ownOf rfl rfl rfl hd_X7_ownOf ⟨Nat.le_of_ble_eq_true rfl, Nat.le_of_ble_eq_true rfl⟩) fr hw hK hA hZo hZ (ci := 7) rfl rfl rfl rfl hl.1 rfl (Nat.le_of_ble_eq_true rfl) dX7_ringNow_72 ⟨Nat.zero_le _, Nat.zero_le _⟩) fr hw hA (fun H locs hw => ?_)
      have e0_ := sm1 hf
      exact hret _ _ _ _ _ hw e0_ (Or.inl rfl) dX7_ringNow_75
    have hf := if_f c15 hf
    by_cases c18 : a2 = 5
    · have hf := if_t c18 hf
      refine lv_tableIn (tgt := 76) hx hb dX7_ringNow_1 (by rw [c18]; decide) (by rw [c18]; decide) (by rw [c18]; rfl) (by decide) ?_
      refine lv_aload_n hx hb dX7_ringNow_76 rfl (lv_at hl 0 rfl) ?_
      refine lv_aload_n hx hb dX7_ringNow_77 rfl (lv_at hl 0 rfl) ?_
      refine w_get hx hb hts hi7 hown hK hw 0 rfl rfl 12 (by decide) q0 rfl (v := .ref (o 6)) rfl dX7_ringNow_78 ?_
      refine lv_iload_n hx hb dX7_ringNow_81 rfl (lv_at hl 1 rfl) ?_
      obtain ⟨x19, g20, hf⟩ := bn1_e hf
      refine w_ald hx hb hK hw 6 rfl g20 dX7_ringNow_82 ?_
      refine lv_aload_n hx hb dX7_ringNow_83 rfl (lv_at hl 0 rfl) ?_
      refine w_get hx hb hts hi7 hown hK hw 0 rfl rfl 13 (by decide) q1 rfl (v := .ref (o 7)) rfl dX7_ringNow_84 ?_
      refine lv_iload_n hx hb dX7_ringNow_87 rfl (lv_at hl 1 rfl) ?_
      obtain ⟨x21, g22, hf⟩ := bn1_e hf
      refine w_ald hx hb hK hw 7 rfl g22 dX7_ringNow_88 ?_
      refine lv_aload_n hx hb dX7_ringNow_89 rfl (lv_at hl 0 rfl) ?_
      refine lv_iload_n hx hb dX7_ringNow_90 rfl (lv_at hl 1 rfl) ?_
      obtain ⟨x23, g24, hf⟩ := bn1_e hf
      have fr := fr_X7_X7_oM o cA oM oM
      refine go_i (run_v (As := [.int a1]) (rest := [.int x21, .int x19, .ref (o 0)]) ⟨hx, hb, hml, hown, hts⟩ (k_X7_ownOf l D cA o oM a1 x23 g24 H.size) (cwV 1 hts gX7_ringNow_X7_ownOf rfl rfl rfl hd_X7_ownOf ⟨Nat.le_of_ble_eq_true rfl, Nat.le_of_ble_eq_true rfl⟩) fr hw hK hA hZo hZ (ci := 7) rfl rfl rfl rfl hl.1 rfl (Nat.le_of_ble_eq_true rfl) dX7_ringNow_91 ⟨Nat.zero_le _, Nat.zero_le _⟩) fr hw hA (fun H locs hw => ?_)
      obtain ⟨x25, g26, hf⟩ := bn1_e hf
      have fr := fr_X7_X7_oM o cA oM oM
      refine go_i (run_v (As := [.int x19, .int x21, .int x23]) (rest := []) ⟨hx, hb, hml, hown, hts⟩ (k_X7_spanOf l D cA o oM x19 x21 x23 x25 g26 H.size) (cwV 3 hts gX7_ringNow_X7_spanOf rfl rfl rfl hd_X7_spanOf ⟨Nat.le_of_ble_eq_true rfl, Nat.le_of_ble_eq_true rfl⟩) fr hw hK hA hZo hZ (ci := 7) rfl rfl rfl rfl hl.1 rfl (Nat.le_of_ble_eq_true rfl) dX7_ringNow_94 ⟨Nat.zero_le _, Nat.zero_le _⟩) fr hw hA (fun H locs hw => ?_)
      have e0_ := sm1 hf
      exact hret _ _ _ _ _ hw e0_ (Or.inl rfl) dX7_ringNow_97
    have hf := if_f c18 hf
    refine lv_tableOut (tgt := 98) hx hb dX7_ringNow_1 (w_out (n := 6) (by decide) (fun k hk => ?_)) (by decide) ?_
    · match k, hk with
      | 0, _ => exact c1
      | 1, _ => exact c4
      | 2, _ => exact c7
      | 3, _ => exact c10
      | 4, _ => exact c15
      | 5, _ => exact c18
      | k + 6, hk => omega
    refine lv_aload_n hx hb dX7_ringNow_98 rfl (lv_at hl 0 rfl) ?_
    refine lv_iload_n hx hb dX7_ringNow_99 rfl (lv_at hl 1 rfl) ?_
    obtain ⟨x27, g28, hf⟩ := bn1_e hf
    have fr := fr_X7_X7_oM o cA oM oM
    refine go_i (run_v (As := [.int a1]) (rest := []) ⟨hx, hb, hml, hown, hts⟩ (k_X7_kindOf l D cA o oM a1 x27 g28 H.size) (cwV 1 hts gX7_ringNow_X7_kindOf rfl rfl rfl hd_X7_kindOf ⟨Nat.le_of_ble_eq_true rfl, Nat.le_of_ble_eq_true rfl⟩) fr hw hK hA hZo hZ (ci := 7) rfl rfl rfl rfl hl.1 rfl (Nat.le_of_ble_eq_true rfl) dX7_ringNow_100 ⟨Nat.zero_le _, Nat.zero_le _⟩) fr hw hA (fun H locs hw => ?_)
    have e0_ := sm1 hf
    exact hret _ _ _ _ _ hw e0_ (Or.inl rfl) dX7_ringNow_103
  rw [hH, hlc] at goal
  exact goal
abbrev rmX7_ring : Room := { frames := 5, cells := 0, slots := 0, locals := 114 }
theorem hd_X7_ring : yX7_ring.cls = RX7 ∧ yX7_ring.cls ≠ "java/lang/invoke/MethodHandle" ∧ yX7_ring.cls ≠ "java/lang/invoke/VarHandle" ∧ (parseMethodDescriptor yX7_ring.desc).map (fun d => d.parameters.length) = some 2 := by decide +kernel
set_option maxHeartbeats 4000000 in
set_option maxRecDepth 100000 in
theorem k_X7_ring (l : Launch) (D : va_G) (cA : ClassId) (o : Nat → Nat) (oM : St) (a1 : Int32) (a2 : Int32) (r : Int32) (hf : f_X7_ring oM a1 a2 = some (r)) : Mi l yX7_ring wsX7_ring rmX7_ring D cA z_0 [.ref (o 0), .int a1, .int a2] (wX7 o cA oM) r (wX7 o cA oM) := by
  refine Mi.of (cc := cX7_ring) (maxL := 3) (ret := (some .int)) (plainFor_of_name (by decide)) rfl (Nat.le_of_ble_eq_true rfl) (Or.inl rfl) ?_
  intro p e s m below meth c A Q hx hb hml hown hts hK hA hZ hret ls hl hw
  replace hown : s.vm.findClass RX7 = some m.cls := hown
  have hl : lv_has ls 3 [(0, .ref (o 0)), (1, .int a1), (2, .int a2)] := hl
  have hZo := z_0_ok
  unfold f_X7_ring at hf
  obtain ⟨H, hH⟩ : ∃ H, H = s.heap := ⟨_, rfl⟩
  obtain ⟨locs, hlc⟩ : ∃ locs : List Loc, locs = [] := ⟨_, rfl⟩
  have hw : Wd D A s.heap H locs (wX7 o cA oM) := by rw [hH, hlc]; exact hw
  have goal : W p l e rmX7_ring s m ([.ref (o 0), .int a1, .int a2] : List Value).toArray below meth c H locs 0 0 Q (F0 m 0 ls []) := by
    clear hH hlc
    refine lv_aload_n hx hb dX7_ring_0 rfl (lv_at hl 0 rfl) ?_
    refine lv_iload_n hx hb dX7_ring_1 rfl (lv_at hl 1 rfl) ?_
    obtain ⟨x1, g2, hf⟩ := bn1_e hf
    have fr := fr_X7_X7_oM o cA oM oM
    refine go_i (run_v (As := [.int a1]) (rest := []) ⟨hx, hb, hml, hown, hts⟩ (k_X7_isRing l D cA o oM a1 x1 g2 H.size) (cwV 1 hts gX7_ring_X7_isRing rfl rfl rfl hd_X7_isRing ⟨Nat.le_of_ble_eq_true rfl, Nat.le_of_ble_eq_true rfl⟩) fr hw hK hA hZo hZ (ci := 7) rfl rfl rfl rfl hl.1 rfl (Nat.le_of_ble_eq_true rfl) dX7_ring_2 ⟨Nat.zero_le _, Nat.zero_le _⟩) fr hw hA (fun H locs hw => ?_)
    refine lv_if_ne (tgt := 13) hx hb dX7_ring_5 (by decide) (fun c3 => ?_) (fun c3 => ?_)
    · have hf := if_f c3 hf
      refine lv_iload_n hx hb dX7_ring_13 rfl (lv_at hl 2 rfl) ?_
      refine lv_iconst (v := 0) hx hb dX7_ring_14 (by decide) ?_
      refine lv_bipush (v := 6) hx hb dX7_ring_15 (by decide) ?_
      obtain ⟨x4, g5, hf⟩ := bn1_e hf
      have fr := fr_X7_S o cA oM
      refine go_i (run_s (As := [.int a2, .int 0, .int 6]) (rest := []) ⟨hx, hb, hml, hown, hts⟩ (k_X7_within l D cA a2 0 6 x4 g5 H.size) (va_cwS 3 hts gX7_ring_X7_within rfl rfl rfl hd_X7_within ⟨Nat.le_of_ble_eq_true rfl, Nat.le_of_ble_eq_true rfl⟩) fr hw hK hA rfl hl.1 rfl (Nat.le_of_ble_eq_true rfl) dX7_ring_17 ⟨Nat.zero_le _, Nat.zero_le _⟩) fr hw hA (fun H locs hw => ?_)
      refine lv_if_eq (tgt := 32) hx hb dX7_ring_20 (by decide) (fun c6 => ?_) (fun c6 => ?_)
      · have hf := if_t c6 hf
        refine lv_bipush (v := (-102)) hx hb dX7_ring_32 (by decide) ?_
        have e0_ := sm1 hf
        exact hret _ _ _ _ _ hw e0_ (Or.inl rfl) dX7_ring_34
      · have hf := if_f c6 hf
        refine lv_aload_n hx hb dX7_ring_23 rfl (lv_at hl 0 rfl) ?_
        refine lv_iload_n hx hb dX7_ring_24 rfl (lv_at hl 1 rfl) ?_
        refine lv_iload_n hx hb dX7_ring_25 rfl (lv_at hl 2 rfl) ?_
        obtain ⟨x7, g8, hf⟩ := bn1_e hf
        have fr := fr_X7_X7_oM o cA oM oM
        refine go_i (run_v (As := [.int a1, .int a2]) (rest := []) ⟨hx, hb, hml, hown, hts⟩ (k_X7_ringNow l D cA o oM a1 a2 x7 g8 H.size) (cwV 2 hts gX7_ring_X7_ringNow rfl rfl rfl hd_X7_ringNow ⟨Nat.le_of_ble_eq_true rfl, Nat.le_of_ble_eq_true rfl⟩) fr hw hK hA hZo hZ (ci := 7) rfl rfl rfl rfl hl.1 rfl (Nat.le_of_ble_eq_true rfl) dX7_ring_26 ⟨Nat.zero_le _, Nat.zero_le _⟩) fr hw hA (fun H locs hw => ?_)
        refine lv_goto (tgt := 34) hx hb dX7_ring_29 (by decide) ?_
        have e0_ := sm1 hf
        exact hret _ _ _ _ _ hw e0_ (Or.inl rfl) dX7_ring_34
    · have hf := if_t c3 hf
      refine lv_bipush (v := (-101)) hx hb dX7_ring_8 (by decide) ?_
      refine lv_goto (tgt := 34) hx hb dX7_ring_10 (by decide) ?_
      have e0_ := sm1 hf
      exact hret _ _ _ _ _ hw e0_ (Or.inl rfl) dX7_ring_34
  rw [hH, hlc] at goal
  exact goal
abbrev rmX7_as : Room := { frames := 4, cells := 0, slots := 0, locals := 92 }
theorem hd_X7_as : yX7_as.cls = RX7 ∧ yX7_as.cls ≠ "java/lang/invoke/MethodHandle" ∧ yX7_as.cls ≠ "java/lang/invoke/VarHandle" ∧ (parseMethodDescriptor yX7_as.desc).map (fun d => d.parameters.length) = some 2 := by decide +kernel
set_option maxHeartbeats 4000000 in
set_option maxRecDepth 100000 in
theorem k_X7_as (l : Launch) (D : va_G) (cA : ClassId) (o : Nat → Nat) (oM : St) (a1 : Int32) (a2 : Int32) (r : Int32) (hf : f_X7_as oM a1 a2 = some (r)) : Mi l yX7_as wsX7_as rmX7_as D cA z_0 [.ref (o 0), .int a1, .int a2] (wX7 o cA oM) r (wX7 o cA oM) := by
  refine Mi.of (cc := cX7_as) (maxL := 3) (ret := (some .int)) (plainFor_of_name (by decide)) rfl (Nat.le_of_ble_eq_true rfl) (Or.inl rfl) ?_
  intro p e s m below meth c A Q hx hb hml hown hts hK hA hZ hret ls hl hw
  replace hown : s.vm.findClass RX7 = some m.cls := hown
  have hl : lv_has ls 3 [(0, .ref (o 0)), (1, .int a1), (2, .int a2)] := hl
  have hZo := z_0_ok
  unfold f_X7_as at hf
  obtain ⟨H, hH⟩ : ∃ H, H = s.heap := ⟨_, rfl⟩
  obtain ⟨locs, hlc⟩ : ∃ locs : List Loc, locs = [] := ⟨_, rfl⟩
  have hw : Wd D A s.heap H locs (wX7 o cA oM) := by rw [hH, hlc]; exact hw
  have goal : W p l e rmX7_as s m ([.ref (o 0), .int a1, .int a2] : List Value).toArray below meth c H locs 0 0 Q (F0 m 0 ls []) := by
    clear hH hlc
    refine lv_aload_n hx hb dX7_as_0 rfl (lv_at hl 0 rfl) ?_
    refine lv_iload_n hx hb dX7_as_1 rfl (lv_at hl 1 rfl) ?_
    obtain ⟨x1, g2, hf⟩ := bn1_e hf
    have fr := fr_X7_X7_oM o cA oM oM
    refine go_i (run_v (As := [.int a1]) (rest := []) ⟨hx, hb, hml, hown, hts⟩ (k_X7_isRing l D cA o oM a1 x1 g2 H.size) (cwV 1 hts gX7_as_X7_isRing rfl rfl rfl hd_X7_isRing ⟨Nat.le_of_ble_eq_true rfl, Nat.le_of_ble_eq_true rfl⟩) fr hw hK hA hZo hZ (ci := 7) rfl rfl rfl rfl hl.1 rfl (Nat.le_of_ble_eq_true rfl) dX7_as_2 ⟨Nat.zero_le _, Nat.zero_le _⟩) fr hw hA (fun H locs hw => ?_)
    refine lv_if_ne (tgt := 11) hx hb dX7_as_5 (by decide) (fun c3 => ?_) (fun c3 => ?_)
    · have hf := if_f c3 hf
      refine lv_iload_n hx hb dX7_as_11 rfl (lv_at hl 2 rfl) ?_
      refine lv_iconst (v := 0) hx hb dX7_as_12 (by decide) ?_
      refine lv_iconst (v := 1) hx hb dX7_as_13 (by decide) ?_
      obtain ⟨x4, g5, hf⟩ := bn1_e hf
      have fr := fr_X7_S o cA oM
      refine go_i (run_s (As := [.int a2, .int 0, .int 1]) (rest := []) ⟨hx, hb, hml, hown, hts⟩ (k_X7_within l D cA a2 0 1 x4 g5 H.size) (va_cwS 3 hts gX7_as_X7_within rfl rfl rfl hd_X7_within ⟨Nat.le_of_ble_eq_true rfl, Nat.le_of_ble_eq_true rfl⟩) fr hw hK hA rfl hl.1 rfl (Nat.le_of_ble_eq_true rfl) dX7_as_14 ⟨Nat.zero_le _, Nat.zero_le _⟩) fr hw hA (fun H locs hw => ?_)
      refine lv_if_ne (tgt := 23) hx hb dX7_as_17 (by decide) (fun c6 => ?_) (fun c6 => ?_)
      · have hf := if_f c6 hf
        refine lv_aload_n hx hb dX7_as_23 rfl (lv_at hl 0 rfl) ?_
        refine lv_iload_n hx hb dX7_as_24 rfl (lv_at hl 1 rfl) ?_
        obtain ⟨x7, g8, hf⟩ := bn1_e hf
        have fr := fr_X7_X7_oM o cA oM oM
        refine go_i (run_v (As := [.int a1]) (rest := []) ⟨hx, hb, hml, hown, hts⟩ (k_X7_kindOf l D cA o oM a1 x7 g8 H.size) (cwV 1 hts gX7_as_X7_kindOf rfl rfl rfl hd_X7_kindOf ⟨Nat.le_of_ble_eq_true rfl, Nat.le_of_ble_eq_true rfl⟩) fr hw hK hA hZo hZ (ci := 7) rfl rfl rfl rfl hl.1 rfl (Nat.le_of_ble_eq_true rfl) dX7_as_25 ⟨Nat.zero_le _, Nat.zero_le _⟩) fr hw hA (fun H locs hw => ?_)
        refine lv_iload_n hx hb dX7_as_28 rfl (lv_at hl 2 rfl) ?_
        refine lv_icmp_ne (tgt := 36) hx hb dX7_as_29 (by decide) (fun c9 => ?_) (fun c9 => ?_)
        · have hf := if_f c9 hf
          refine lv_iconst (v := (-1)) hx hb dX7_as_36 (by decide) ?_
          have e0_ := sm1 hf
          exact hret _ _ _ _ _ hw e0_ (Or.inl rfl) dX7_as_37
        · have hf := if_t c9 hf
          refine lv_iload_n hx hb dX7_as_32 rfl (lv_at hl 1 rfl) ?_
          refine lv_goto (tgt := 37) hx hb dX7_as_33 (by decide) ?_
          have e0_ := sm1 hf
          exact hret _ _ _ _ _ hw e0_ (Or.inl rfl) dX7_as_37
      · have hf := if_t c6 hf
        refine lv_bipush (v := (-102)) hx hb dX7_as_20 (by decide) ?_
        have e0_ := sm1 hf
        exact hret _ _ _ _ _ hw e0_ (Or.inl rfl) dX7_as_22
    · have hf := if_t c3 hf
      refine lv_bipush (v := (-101)) hx hb dX7_as_8 (by decide) ?_
      have e0_ := sm1 hf
      exact hret _ _ _ _ _ hw e0_ (Or.inl rfl) dX7_as_10
  rw [hH, hlc] at goal
  exact goal
abbrev rmX7_cross : Room := { frames := 2, cells := 0, slots := 0, locals := 43 }
theorem hd_X7_cross : yX7_cross.cls = RX7 ∧ yX7_cross.cls ≠ "java/lang/invoke/MethodHandle" ∧ yX7_cross.cls ≠ "java/lang/invoke/VarHandle" ∧ (parseMethodDescriptor yX7_cross.desc).map (fun d => d.parameters.length) = some 2 := by decide +kernel
set_option maxHeartbeats 4000000 in
set_option maxRecDepth 100000 in
theorem k_X7_cross (l : Launch) (D : va_G) (cA : ClassId) (o : Nat → Nat) (oM : St) (a1 : Int32) (a2 : Int32) (r : Int32) (hf : f_X7_cross oM a1 a2 = some (r)) : Mi l yX7_cross wsX7_cross rmX7_cross D cA z_0 [.ref (o 0), .int a1, .int a2] (wX7 o cA oM) r (wX7 o cA oM) := by
  refine Mi.of (cc := cX7_cross) (maxL := 8) (ret := (some .int)) (plainFor_of_name (by decide)) rfl (Nat.le_of_ble_eq_true rfl) (Or.inl rfl) ?_
  intro p e s m below meth c A Q hx hb hml hown hts hK hA hZ hret ls hl hw
  replace hown : s.vm.findClass RX7 = some m.cls := hown
  have hl : lv_has ls 8 [(0, .ref (o 0)), (1, .int a1), (2, .int a2)] := hl
  have hZo := z_0_ok
  have hi7 : ∀ w ∈ wsX70, w ∈ wsX7_cross := fun w h => List.mem_cons_of_mem _ (List.mem_append_right _ h)
  have q0 := hts (.fieldLink RX7 25 "ArcRingsModel" "ringX" "[I") (by decide +kernel)
  have q1 := hts (.fieldLink RX7 28 "ArcRingsModel" "ringY" "[I") (by decide +kernel)
  have q2 := hts (.fieldLink RX7 31 "ArcRingsModel" "ringR" "[I") (by decide +kernel)
  unfold f_X7_cross at hf
  obtain ⟨H, hH⟩ : ∃ H, H = s.heap := ⟨_, rfl⟩
  obtain ⟨locs, hlc⟩ : ∃ locs : List Loc, locs = [] := ⟨_, rfl⟩
  have hw : Wd D A s.heap H locs (wX7 o cA oM) := by rw [hH, hlc]; exact hw
  have goal : W p l e rmX7_cross s m ([.ref (o 0), .int a1, .int a2] : List Value).toArray below meth c H locs 0 0 Q (F0 m 0 ls []) := by
    clear hH hlc
    refine lv_aload_n hx hb dX7_cross_0 rfl (lv_at hl 0 rfl) ?_
    refine lv_iload_n hx hb dX7_cross_1 rfl (lv_at hl 1 rfl) ?_
    obtain ⟨x1, g2, hf⟩ := bn1_e hf
    have fr := fr_X7_X7_oM o cA oM oM
    refine go_i (run_v (As := [.int a1]) (rest := []) ⟨hx, hb, hml, hown, hts⟩ (k_X7_isRing l D cA o oM a1 x1 g2 H.size) (cwV 1 hts gX7_cross_X7_isRing rfl rfl rfl hd_X7_isRing ⟨Nat.le_of_ble_eq_true rfl, Nat.le_of_ble_eq_true rfl⟩) fr hw hK hA hZo hZ (ci := 7) rfl rfl rfl rfl hl.1 rfl (Nat.le_of_ble_eq_true rfl) dX7_cross_2 ⟨Nat.zero_le _, Nat.zero_le _⟩) fr hw hA (fun H locs hw => ?_)
    refine lv_if_eq (tgt := 21) hx hb dX7_cross_5 (by decide) (fun c3 => ?_) (fun c3 => ?_)
    · have hf := if_t c3 hf
      refine lv_bipush (v := (-101)) hx hb dX7_cross_21 (by decide) ?_
      have e0_ := sm1 hf
      exact hret _ _ _ _ _ hw e0_ (Or.inl rfl) dX7_cross_23
    · have hf := if_f c3 hf
      refine lv_aload_n hx hb dX7_cross_8 rfl (lv_at hl 0 rfl) ?_
      refine lv_iload_n hx hb dX7_cross_9 rfl (lv_at hl 2 rfl) ?_
      obtain ⟨x4, g5, hf⟩ := bn1_e hf
      have fr := fr_X7_X7_oM o cA oM oM
      refine go_i (run_v (As := [.int a2]) (rest := []) ⟨hx, hb, hml, hown, hts⟩ (k_X7_isRing l D cA o oM a2 x4 g5 H.size) (cwV 1 hts gX7_cross_X7_isRing rfl rfl rfl hd_X7_isRing ⟨Nat.le_of_ble_eq_true rfl, Nat.le_of_ble_eq_true rfl⟩) fr hw hK hA hZo hZ (ci := 7) rfl rfl rfl rfl hl.1 rfl (Nat.le_of_ble_eq_true rfl) dX7_cross_10 ⟨Nat.zero_le _, Nat.zero_le _⟩) fr hw hA (fun H locs hw => ?_)
      refine lv_if_eq (tgt := 21) hx hb dX7_cross_13 (by decide) (fun c6 => ?_) (fun c6 => ?_)
      · have hf := if_t c6 hf
        refine lv_bipush (v := (-101)) hx hb dX7_cross_21 (by decide) ?_
        have e0_ := sm1 hf
        exact hret _ _ _ _ _ hw e0_ (Or.inl rfl) dX7_cross_23
      · have hf := if_f c6 hf
        refine lv_iload_n hx hb dX7_cross_16 rfl (lv_at hl 1 rfl) ?_
        refine lv_iload_n hx hb dX7_cross_17 rfl (lv_at hl 2 rfl) ?_
        refine lv_icmp_ne (tgt := 24) hx hb dX7_cross_18 (by decide) (fun c7 => ?_) (fun c7 => ?_)
        · have hf := if_f c7 hf
          refine lv_iconst (v := 2) hx hb dX7_cross_24 (by decide) ?_
          refine lv_aload_n hx hb dX7_cross_25 rfl (lv_at hl 0 rfl) ?_
          refine w_get hx hb hts hi7 hown hK hw 0 rfl rfl 12 (by decide) q0 rfl (v := .ref (o 6)) rfl dX7_cross_26 ?_
          refine lv_iload_n hx hb dX7_cross_29 rfl (lv_at hl 1 rfl) ?_
          obtain ⟨x8, g9, hf⟩ := bn1_e hf
          refine w_ald hx hb hK hw 6 rfl g9 dX7_cross_30 ?_
          refine lv_aload_n hx hb dX7_cross_31 rfl (lv_at hl 0 rfl) ?_
          refine w_get hx hb hts hi7 hown hK hw 0 rfl rfl 12 (by decide) q0 rfl (v := .ref (o 6)) rfl dX7_cross_32 ?_
          refine lv_iload_n hx hb dX7_cross_35 rfl (lv_at hl 2 rfl) ?_
          obtain ⟨x10, g11, hf⟩ := bn1_e hf
          refine w_ald hx hb hK hw 6 rfl g11 dX7_cross_36 ?_
          refine lv_isub hx hb dX7_cross_37 ?_
          refine lv_imul hx hb dX7_cross_38 ?_
          refine lv_istore_n (lv' := [(3, .int (2 * (x8 - x10))), (0, .ref (o 0)), (1, .int a1), (2, .int a2)]) hx hb dX7_cross_39 rfl hl (by decide) rfl (fun ls hl => ?_)
          refine lv_iconst (v := 2) hx hb dX7_cross_40 (by decide) ?_
          refine lv_aload_n hx hb dX7_cross_41 rfl (lv_at hl 1 rfl) ?_
          refine w_get hx hb hts hi7 hown hK hw 0 rfl rfl 13 (by decide) q1 rfl (v := .ref (o 7)) rfl dX7_cross_42 ?_
          refine lv_iload_n hx hb dX7_cross_45 rfl (lv_at hl 2 rfl) ?_
          obtain ⟨x12, g13, hf⟩ := bn1_e hf
          refine w_ald hx hb hK hw 7 rfl g13 dX7_cross_46 ?_
          refine lv_aload_n hx hb dX7_cross_47 rfl (lv_at hl 1 rfl) ?_
          refine w_get hx hb hts hi7 hown hK hw 0 rfl rfl 13 (by decide) q1 rfl (v := .ref (o 7)) rfl dX7_cross_48 ?_
          refine lv_iload_n hx hb dX7_cross_51 rfl (lv_at hl 3 rfl) ?_
          obtain ⟨x14, g15, hf⟩ := bn1_e hf
          refine w_ald hx hb hK hw 7 rfl g15 dX7_cross_52 ?_
          refine lv_isub hx hb dX7_cross_53 ?_
          refine lv_imul hx hb dX7_cross_54 ?_
          refine lv_istore (lv' := [(4, .int (2 * (x12 - x14))), (3, .int (2 * (x8 - x10))), (0, .ref (o 0)), (1, .int a1), (2, .int a2)]) hx hb dX7_cross_55 hl (by decide) rfl (fun ls hl => ?_)
          refine lv_iconst (v := 2) hx hb dX7_cross_57 (by decide) ?_
          refine lv_aload_n hx hb dX7_cross_58 rfl (lv_at hl 2 rfl) ?_
          refine w_get hx hb hts hi7 hown hK hw 0 rfl rfl 14 (by decide) q2 rfl (v := .ref (o 8)) rfl dX7_cross_59 ?_
          refine lv_iload_n hx hb dX7_cross_62 rfl (lv_at hl 3 rfl) ?_
          obtain ⟨x16, g17, hf⟩ := bn1_e hf
          refine w_ald hx hb hK hw 8 rfl g17 dX7_cross_63 ?_
          refine lv_imul hx hb dX7_cross_64 ?_
          refine lv_iconst (v := 2) hx hb dX7_cross_65 (by decide) ?_
          refine lv_aload_n hx hb dX7_cross_66 rfl (lv_at hl 2 rfl) ?_
          refine w_get hx hb hts hi7 hown hK hw 0 rfl rfl 14 (by decide) q2 rfl (v := .ref (o 8)) rfl dX7_cross_67 ?_
          refine lv_iload_n hx hb dX7_cross_70 rfl (lv_at hl 4 rfl) ?_
          obtain ⟨x18, g19, hf⟩ := bn1_e hf
          refine w_ald hx hb hK hw 8 rfl g19 dX7_cross_71 ?_
          refine lv_imul hx hb dX7_cross_72 ?_
          refine lv_iadd hx hb dX7_cross_73 ?_
          refine lv_iconst (v := 2) hx hb dX7_cross_74 (by decide) ?_
          refine lv_iadd hx hb dX7_cross_75 ?_
          refine lv_istore (lv' := [(5, .int (((2 * x16) + (2 * x18)) + 2)), (4, .int (2 * (x12 - x14))), (3, .int (2 * (x8 - x10))), (0, .ref (o 0)), (1, .int a1), (2, .int a2)]) hx hb dX7_cross_76 hl (by decide) rfl (fun ls hl => ?_)
          refine lv_iconst (v := 2) hx hb dX7_cross_78 (by decide) ?_
          refine lv_aload_n hx hb dX7_cross_79 rfl (lv_at hl 3 rfl) ?_
          refine w_get hx hb hts hi7 hown hK hw 0 rfl rfl 14 (by decide) q2 rfl (v := .ref (o 8)) rfl dX7_cross_80 ?_
          refine lv_iload_n hx hb dX7_cross_83 rfl (lv_at hl 4 rfl) ?_
          obtain ⟨x20, g21, hf⟩ := bn1_e hf
          refine w_ald hx hb hK hw 8 rfl g21 dX7_cross_84 ?_
          refine lv_aload_n hx hb dX7_cross_85 rfl (lv_at hl 3 rfl) ?_
          refine w_get hx hb hts hi7 hown hK hw 0 rfl rfl 14 (by decide) q2 rfl (v := .ref (o 8)) rfl dX7_cross_86 ?_
          refine lv_iload_n hx hb dX7_cross_89 rfl (lv_at hl 5 rfl) ?_
          obtain ⟨x22, g23, hf⟩ := bn1_e hf
          refine w_ald hx hb hK hw 8 rfl g23 dX7_cross_90 ?_
          refine lv_isub hx hb dX7_cross_91 ?_
          refine lv_imul hx hb dX7_cross_92 ?_
          refine lv_istore (lv' := [(6, .int (2 * (x20 - x22))), (5, .int (((2 * x16) + (2 * x18)) + 2)), (4, .int (2 * (x12 - x14))), (3, .int (2 * (x8 - x10))), (0, .ref (o 0)), (1, .int a1), (2, .int a2)]) hx hb dX7_cross_93 hl (by decide) rfl (fun ls hl => ?_)
          refine lv_iload_n hx hb dX7_cross_95 rfl (lv_at hl 3 rfl) ?_
          refine lv_iload_n hx hb dX7_cross_96 rfl (lv_at hl 3 rfl) ?_
          refine lv_imul hx hb dX7_cross_97 ?_
          refine lv_iload hx hb dX7_cross_98 (lv_at hl 2 rfl) ?_
          refine lv_iload hx hb dX7_cross_100 (lv_at hl 2 rfl) ?_
          refine lv_imul hx hb dX7_cross_102 ?_
          refine lv_iadd hx hb dX7_cross_103 ?_
          obtain ⟨y24, e25, hf⟩ := bn1_e hf
          refine w_nmi (sm1 e25) ?_
          refine lv_istore (lv' := [(7, .int y24), (6, .int (2 * (x20 - x22))), (5, .int (((2 * x16) + (2 * x18)) + 2)), (4, .int (2 * (x12 - x14))), (3, .int (2 * (x8 - x10))), (0, .ref (o 0)), (1, .int a1), (2, .int a2)]) hx hb dX7_cross_104 hl (by decide) rfl (fun ls hl => ?_)
          refine lv_iload hx hb dX7_cross_106 (lv_at hl 0 rfl) ?_
          refine lv_iload hx hb dX7_cross_108 (lv_at hl 2 rfl) ?_
          refine lv_iload hx hb dX7_cross_110 (lv_at hl 2 rfl) ?_
          refine lv_imul hx hb dX7_cross_112 ?_
          refine lv_icmp_gt (tgt := 130) hx hb dX7_cross_113 (by decide) (fun c26 => ?_) (fun c26 => ?_)
          · have hf := if_t c26 hf
            refine lv_iconst (v := 0) hx hb dX7_cross_130 (by decide) ?_
            have e0_ := sm1 hf
            exact hret _ _ _ _ _ hw e0_ (Or.inl rfl) dX7_cross_131
          · have hf := if_f c26 hf
            refine lv_iload hx hb dX7_cross_116 (lv_at hl 0 rfl) ?_
            refine lv_iload hx hb dX7_cross_118 (lv_at hl 1 rfl) ?_
            refine lv_iload hx hb dX7_cross_120 (lv_at hl 1 rfl) ?_
            refine lv_imul hx hb dX7_cross_122 ?_
            refine lv_icmp_lt (tgt := 130) hx hb dX7_cross_123 (by decide) (fun c27 => ?_) (fun c27 => ?_)
            · have hf := if_t c27 hf
              refine lv_iconst (v := 0) hx hb dX7_cross_130 (by decide) ?_
              have e0_ := sm1 hf
              exact hret _ _ _ _ _ hw e0_ (Or.inl rfl) dX7_cross_131
            · have hf := if_f c27 hf
              refine lv_iconst (v := 1) hx hb dX7_cross_126 (by decide) ?_
              refine lv_goto (tgt := 131) hx hb dX7_cross_127 (by decide) ?_
              have e0_ := sm1 hf
              exact hret _ _ _ _ _ hw e0_ (Or.inl rfl) dX7_cross_131
        · have hf := if_t c7 hf
          refine lv_bipush (v := (-101)) hx hb dX7_cross_21 (by decide) ?_
          have e0_ := sm1 hf
          exact hret _ _ _ _ _ hw e0_ (Or.inl rfl) dX7_cross_23
  rw [hH, hlc] at goal
  exact goal
abbrev rmX7_ofRings : Room := { frames := 1, cells := 0, slots := 0, locals := 21 }
theorem hd_X7_ofRings : yX7_ofRings.cls = RX7 ∧ yX7_ofRings.cls ≠ "java/lang/invoke/MethodHandle" ∧ yX7_ofRings.cls ≠ "java/lang/invoke/VarHandle" ∧ (parseMethodDescriptor yX7_ofRings.desc).map (fun d => d.parameters.length) = some 0 := by decide +kernel
set_option maxHeartbeats 4000000 in
set_option maxRecDepth 100000 in
theorem k_X7_ofRings (l : Launch) (D : va_G) (cA : ClassId) (o : Nat → Nat) (oM : St) (r : Int32) (hf : f_X7_ofRings oM = some (r)) : Mi l yX7_ofRings wsX7_ofRings rmX7_ofRings D cA z_0 [.ref (o 0)] (wX7 o cA oM) r (wX7 o cA oM) := by
  refine Mi.of (cc := cX7_ofRings) (maxL := 3) (ret := (some .int)) (plainFor_of_name (by decide)) rfl (Nat.le_of_ble_eq_true rfl) (Or.inl rfl) ?_
  intro p e s m below meth c A Q hx hb hml hown hts hK hA hZ hret ls hl hw
  replace hown : s.vm.findClass RX7 = some m.cls := hown
  have hl : lv_has ls 3 [(0, .ref (o 0))] := hl
  have hZo := z_0_ok
  have hi7 : ∀ w ∈ wsX70, w ∈ wsX7_ofRings := fun w h => List.mem_cons_of_mem _ (List.mem_append_right _ h)
  have q0 := hts (.fieldLink RX7 121 "ArcRingsModel" "dots" "I") (by decide +kernel)
  have h_L4 : ∀ (n : Nat) (v1 : Int32) (v2 : Int32), f_X7_ofRings_L4 oM n v1 v2 = some (r) → ∀ (H : Heap) (locs : List Loc) (ls : Array Slot), Wd D A s.heap H locs (wX7 o cA oM) → lv_has ls 3 [(0, .ref (o 0)), (1, .int v1), (2, .int v2)] → W p l e rmX7_ofRings s m ([.ref (o 0)] : List Value).toArray below meth c H locs 0 0 Q (F0 m 4 ls []) := by
    intro n
    induction n with
    | zero =>
      intro v1 v2 hf
      have hf : none = some (r) := hf
      cases hf
    | succ n ih =>
      intro v1 v2 hf H locs ls hw hl
      have hf := (f_X7_ofRings_L4_s oM n v1 v2).symm.trans hf
      refine lv_iload_n hx hb dX7_ofRings_4 rfl (lv_at hl 2 rfl) ?_
      refine lv_aload_n hx hb dX7_ofRings_5 rfl (lv_at hl 0 rfl) ?_
      refine w_get hx hb hts hi7 hown hK hw 0 rfl rfl 5 (by decide) q0 rfl (v := .int (oM.1 5)) rfl dX7_ofRings_6 ?_
      refine lv_icmp_ge (tgt := 35) hx hb dX7_ofRings_9 (by decide) (fun c1 => ?_) (fun c1 => ?_)
      · have hf := if_t c1 hf
        refine lv_iload_n hx hb dX7_ofRings_35 rfl (lv_at hl 1 rfl) ?_
        have e0_ := sm1 hf
        exact hret _ _ _ _ _ hw e0_ (Or.inl rfl) dX7_ofRings_36
      · have hf := if_f c1 hf
        refine lv_iload_n hx hb dX7_ofRings_12 rfl (lv_at hl 1 rfl) ?_
        refine lv_aload_n hx hb dX7_ofRings_13 rfl (lv_at hl 0 rfl) ?_
        refine lv_iload_n hx hb dX7_ofRings_14 rfl (lv_at hl 2 rfl) ?_
        obtain ⟨x2, g3, hf⟩ := bn1_e hf
        have fr := fr_X7_X7_oM o cA oM oM
        refine go_i (run_v (As := [.int v2]) (rest := [.int v1]) ⟨hx, hb, hml, hown, hts⟩ (k_X7_ringOf l D cA o oM v2 x2 g3 H.size) (cwV 1 hts gX7_ofRings_X7_ringOf rfl rfl rfl hd_X7_ringOf ⟨Nat.le_of_ble_eq_true rfl, Nat.le_of_ble_eq_true rfl⟩) fr hw hK hA hZo hZ (ci := 7) rfl rfl rfl rfl hl.1 rfl (Nat.le_of_ble_eq_true rfl) dX7_ofRings_15 ⟨Nat.zero_le _, Nat.zero_le _⟩) fr hw hA (fun H locs hw => ?_)
        refine lv_iconst (v := (-1)) hx hb dX7_ofRings_18 (by decide) ?_
        refine lv_icmp_ne (tgt := 26) hx hb dX7_ofRings_19 (by decide) (fun c4 => ?_) (fun c4 => ?_)
        · have hf := if_f c4 hf
          refine lv_iconst (v := 1) hx hb dX7_ofRings_26 (by decide) ?_
          refine lv_iadd hx hb dX7_ofRings_27 ?_
          refine lv_istore_n (lv' := [(1, .int (v1 + 1)), (0, .ref (o 0)), (2, .int v2)]) hx hb dX7_ofRings_28 rfl hl (by decide) rfl (fun ls hl => ?_)
          refine lv_iinc (v := v2 + 1) (lv' := [(2, .int (v2 + 1)), (1, .int (v1 + 1)), (0, .ref (o 0))]) hx hb dX7_ofRings_29 hl (k := 2) rfl (by rfl) (by decide) rfl (fun ls hl => ?_)
          refine lv_goto (tgt := 4) hx hb dX7_ofRings_32 (by decide) ?_
          exact ih (v1 + 1) (v2 + 1) hf H locs ls hw (lv_sub hl [2, 1, 0] rfl)
        · have hf := if_t c4 hf
          refine lv_iconst (v := 0) hx hb dX7_ofRings_22 (by decide) ?_
          refine lv_goto (tgt := 27) hx hb dX7_ofRings_23 (by decide) ?_
          refine lv_iadd hx hb dX7_ofRings_27 ?_
          refine lv_istore_n (lv' := [(1, .int (v1 + 0)), (0, .ref (o 0)), (2, .int v2)]) hx hb dX7_ofRings_28 rfl hl (by decide) rfl (fun ls hl => ?_)
          refine lv_iinc (v := v2 + 1) (lv' := [(2, .int (v2 + 1)), (1, .int (v1 + 0)), (0, .ref (o 0))]) hx hb dX7_ofRings_29 hl (k := 2) rfl (by rfl) (by decide) rfl (fun ls hl => ?_)
          refine lv_goto (tgt := 4) hx hb dX7_ofRings_32 (by decide) ?_
          exact ih (v1 + 0) (v2 + 1) hf H locs ls hw (lv_sub hl [2, 1, 0] rfl)
  unfold f_X7_ofRings at hf
  obtain ⟨H, hH⟩ : ∃ H, H = s.heap := ⟨_, rfl⟩
  obtain ⟨locs, hlc⟩ : ∃ locs : List Loc, locs = [] := ⟨_, rfl⟩
  have hw : Wd D A s.heap H locs (wX7 o cA oM) := by rw [hH, hlc]; exact hw
  have goal : W p l e rmX7_ofRings s m ([.ref (o 0)] : List Value).toArray below meth c H locs 0 0 Q (F0 m 0 ls []) := by
    clear hH hlc
    refine lv_iconst (v := 0) hx hb dX7_ofRings_0 (by decide) ?_
    refine lv_istore_n (lv' := [(1, .int 0), (0, .ref (o 0))]) hx hb dX7_ofRings_1 rfl hl (by decide) rfl (fun ls hl => ?_)
    refine lv_iconst (v := 0) hx hb dX7_ofRings_2 (by decide) ?_
    refine lv_istore_n (lv' := [(2, .int 0), (1, .int 0), (0, .ref (o 0))]) hx hb dX7_ofRings_3 rfl hl (by decide) rfl (fun ls hl => ?_)
    exact h_L4  _ 0 0 hf H locs ls hw (lv_sub hl [2, 1, 0] rfl)
  rw [hH, hlc] at goal
  exact goal
abbrev rmX7_howMany : Room := { frames := 2, cells := 0, slots := 0, locals := 43 }
theorem hd_X7_howMany : yX7_howMany.cls = RX7 ∧ yX7_howMany.cls ≠ "java/lang/invoke/MethodHandle" ∧ yX7_howMany.cls ≠ "java/lang/invoke/VarHandle" ∧ (parseMethodDescriptor yX7_howMany.desc).map (fun d => d.parameters.length) = some 1 := by decide +kernel
set_option maxHeartbeats 4000000 in
set_option maxRecDepth 100000 in
theorem k_X7_howMany (l : Launch) (D : va_G) (cA : ClassId) (o : Nat → Nat) (oM : St) (a1 : Int32) (r : Int32) (hf : f_X7_howMany oM a1 = some (r)) : Mi l yX7_howMany wsX7_howMany rmX7_howMany D cA z_0 [.ref (o 0), .int a1] (wX7 o cA oM) r (wX7 o cA oM) := by
  refine Mi.of (cc := cX7_howMany) (maxL := 2) (ret := (some .int)) (plainFor_of_name (by decide)) rfl (Nat.le_of_ble_eq_true rfl) (Or.inl rfl) ?_
  intro p e s m below meth c A Q hx hb hml hown hts hK hA hZ hret ls hl hw
  replace hown : s.vm.findClass RX7 = some m.cls := hown
  have hl : lv_has ls 2 [(0, .ref (o 0)), (1, .int a1)] := hl
  have hZo := z_0_ok
  have hi7 : ∀ w ∈ wsX70, w ∈ wsX7_howMany := fun w h => List.mem_cons_of_mem _ (List.mem_append_right _ h)
  have q0 := hts (.fieldLink RX7 121 "ArcRingsModel" "dots" "I") (by decide +kernel)
  have q1 := hts (.fieldLink RX7 124 "ArcRingsModel" "isHunted" "Z") (by decide +kernel)
  have q2 := hts (.fieldLink RX7 319 "ArcRingsModel" "rings" "I") (by decide +kernel)
  have q3 := hts (.fieldLink RX7 62 "ArcRingsModel" "pageLength" "I") (by decide +kernel)
  have q4 := hts (.fieldLink RX7 128 "ArcRingsModel" "sheets" "I") (by decide +kernel)
  have q5 := hts (.fieldLink RX7 322 "ArcRingsModel" "hunts" "I") (by decide +kernel)
  have q6 := hts (.fieldLink RX7 346 "ArcRingsModel" "givenUp" "I") (by decide +kernel)
  unfold f_X7_howMany at hf
  obtain ⟨H, hH⟩ : ∃ H, H = s.heap := ⟨_, rfl⟩
  obtain ⟨locs, hlc⟩ : ∃ locs : List Loc, locs = [] := ⟨_, rfl⟩
  have hw : Wd D A s.heap H locs (wX7 o cA oM) := by rw [hH, hlc]; exact hw
  have goal : W p l e rmX7_howMany s m ([.ref (o 0), .int a1] : List Value).toArray below meth c H locs 0 0 Q (F0 m 0 ls []) := by
    clear hH hlc
    refine lv_iload_n hx hb dX7_howMany_0 rfl (lv_at hl 1 rfl) ?_
    by_cases c1 : a1 = 0
    · have hf := if_t c1 hf
      refine lv_tableIn (tgt := 44) hx hb dX7_howMany_1 (by rw [c1]; decide) (by rw [c1]; decide) (by rw [c1]; rfl) (by decide) ?_
      refine lv_aload_n hx hb dX7_howMany_44 rfl (lv_at hl 0 rfl) ?_
      refine w_get hx hb hts hi7 hown hK hw 0 rfl rfl 5 (by decide) q0 rfl (v := .int (oM.1 5)) rfl dX7_howMany_45 ?_
      have e0_ := sm1 hf
      exact hret _ _ _ _ _ hw e0_ (Or.inl rfl) dX7_howMany_48
    have hf := if_f c1 hf
    by_cases c2 : a1 = 1
    · have hf := if_t c2 hf
      refine lv_tableIn (tgt := 49) hx hb dX7_howMany_1 (by rw [c2]; decide) (by rw [c2]; decide) (by rw [c2]; rfl) (by decide) ?_
      refine lv_aload_n hx hb dX7_howMany_49 rfl (lv_at hl 0 rfl) ?_
      refine w_get hx hb hts hi7 hown hK hw 0 rfl rfl 10 (by decide) q1 rfl (v := .int (oM.1 10)) rfl dX7_howMany_50 ?_
      refine lv_if_eq (tgt := 63) hx hb dX7_howMany_53 (by decide) (fun c3 => ?_) (fun c3 => ?_)
      · have hf := if_t c3 hf
        refine lv_iconst (v := 0) hx hb dX7_howMany_63 (by decide) ?_
        have e0_ := sm1 hf
        exact hret _ _ _ _ _ hw e0_ (Or.inl rfl) dX7_howMany_64
      · have hf := if_f c3 hf
        refine lv_aload_n hx hb dX7_howMany_56 rfl (lv_at hl 0 rfl) ?_
        refine w_get hx hb hts hi7 hown hK hw 0 rfl rfl 11 (by decide) q2 rfl (v := .int (oM.1 11)) rfl dX7_howMany_57 ?_
        refine lv_goto (tgt := 64) hx hb dX7_howMany_60 (by decide) ?_
        have e0_ := sm1 hf
        exact hret _ _ _ _ _ hw e0_ (Or.inl rfl) dX7_howMany_64
    have hf := if_f c2 hf
    by_cases c4 : a1 = 2
    · have hf := if_t c4 hf
      refine lv_tableIn (tgt := 65) hx hb dX7_howMany_1 (by rw [c4]; decide) (by rw [c4]; decide) (by rw [c4]; rfl) (by decide) ?_
      refine lv_aload_n hx hb dX7_howMany_65 rfl (lv_at hl 0 rfl) ?_
      obtain ⟨x5, g6, hf⟩ := bn1_e hf
      have fr := fr_X7_X7_oM o cA oM oM
      refine go_i (run_v (As := []) (rest := []) ⟨hx, hb, hml, hown, hts⟩ (k_X7_ofRings l D cA o oM x5 g6 H.size) (cwV 0 hts gX7_howMany_X7_ofRings rfl rfl rfl hd_X7_ofRings ⟨Nat.le_of_ble_eq_true rfl, Nat.le_of_ble_eq_true rfl⟩) fr hw hK hA hZo hZ (ci := 7) rfl rfl rfl rfl hl.1 rfl (Nat.le_of_ble_eq_true rfl) dX7_howMany_66 ⟨Nat.zero_le _, Nat.zero_le _⟩) fr hw hA (fun H locs hw => ?_)
      have e0_ := sm1 hf
      exact hret _ _ _ _ _ hw e0_ (Or.inl rfl) dX7_howMany_69
    have hf := if_f c4 hf
    by_cases c7 : a1 = 3
    · have hf := if_t c7 hf
      refine lv_tableIn (tgt := 70) hx hb dX7_howMany_1 (by rw [c7]; decide) (by rw [c7]; decide) (by rw [c7]; rfl) (by decide) ?_
      refine lv_aload_n hx hb dX7_howMany_70 rfl (lv_at hl 0 rfl) ?_
      refine w_get hx hb hts hi7 hown hK hw 0 rfl rfl 0 (by decide) q3 rfl (v := .int (oM.1 0)) rfl dX7_howMany_71 ?_
      have e0_ := sm1 hf
      exact hret _ _ _ _ _ hw e0_ (Or.inl rfl) dX7_howMany_74
    have hf := if_f c7 hf
    by_cases c8 : a1 = 4
    · have hf := if_t c8 hf
      refine lv_tableIn (tgt := 75) hx hb dX7_howMany_1 (by rw [c8]; decide) (by rw [c8]; decide) (by rw [c8]; rfl) (by decide) ?_
      refine lv_aload_n hx hb dX7_howMany_75 rfl (lv_at hl 0 rfl) ?_
      refine w_get hx hb hts hi7 hown hK hw 0 rfl rfl 4 (by decide) q4 rfl (v := .int (oM.1 4)) rfl dX7_howMany_76 ?_
      have e0_ := sm1 hf
      exact hret _ _ _ _ _ hw e0_ (Or.inl rfl) dX7_howMany_79
    have hf := if_f c8 hf
    by_cases c9 : a1 = 5
    · have hf := if_t c9 hf
      refine lv_tableIn (tgt := 80) hx hb dX7_howMany_1 (by rw [c9]; decide) (by rw [c9]; decide) (by rw [c9]; rfl) (by decide) ?_
      refine lv_aload_n hx hb dX7_howMany_80 rfl (lv_at hl 0 rfl) ?_
      refine w_get hx hb hts hi7 hown hK hw 0 rfl rfl 16 (by decide) q5 rfl (v := .int (oM.1 16)) rfl dX7_howMany_81 ?_
      have e0_ := sm1 hf
      exact hret _ _ _ _ _ hw e0_ (Or.inl rfl) dX7_howMany_84
    have hf := if_f c9 hf
    by_cases c10 : a1 = 6
    · have hf := if_t c10 hf
      refine lv_tableIn (tgt := 85) hx hb dX7_howMany_1 (by rw [c10]; decide) (by rw [c10]; decide) (by rw [c10]; rfl) (by decide) ?_
      refine lv_aload_n hx hb dX7_howMany_85 rfl (lv_at hl 0 rfl) ?_
      refine w_get hx hb hts hi7 hown hK hw 0 rfl rfl 17 (by decide) q6 rfl (v := .int (oM.1 17)) rfl dX7_howMany_86 ?_
      have e0_ := sm1 hf
      exact hret _ _ _ _ _ hw e0_ (Or.inl rfl) dX7_howMany_89
    have hf := if_f c10 hf
    refine lv_tableOut (tgt := 90) hx hb dX7_howMany_1 (w_out (n := 7) (by decide) (fun k hk => ?_)) (by decide) ?_
    · match k, hk with
      | 0, _ => exact c1
      | 1, _ => exact c2
      | 2, _ => exact c4
      | 3, _ => exact c7
      | 4, _ => exact c8
      | 5, _ => exact c9
      | 6, _ => exact c10
      | k + 7, hk => omega
    refine lv_bipush (v := (-102)) hx hb dX7_howMany_90 (by decide) ?_
    have e0_ := sm1 hf
    exact hret _ _ _ _ _ hw e0_ (Or.inl rfl) dX7_howMany_92
  rw [hH, hlc] at goal
  exact goal
abbrev rmX7_count : Room := { frames := 3, cells := 0, slots := 0, locals := 64 }
theorem hd_X7_count : yX7_count.cls = RX7 ∧ yX7_count.cls ≠ "java/lang/invoke/MethodHandle" ∧ yX7_count.cls ≠ "java/lang/invoke/VarHandle" ∧ (parseMethodDescriptor yX7_count.desc).map (fun d => d.parameters.length) = some 1 := by decide +kernel
set_option maxHeartbeats 4000000 in
set_option maxRecDepth 100000 in
theorem k_X7_count (l : Launch) (D : va_G) (cA : ClassId) (o : Nat → Nat) (oM : St) (a1 : Int32) (r : Int32) (hf : f_X7_count oM a1 = some (r)) : Mi l yX7_count wsX7_count rmX7_count D cA z_0 [.ref (o 0), .int a1] (wX7 o cA oM) r (wX7 o cA oM) := by
  refine Mi.of (cc := cX7_count) (maxL := 2) (ret := (some .int)) (plainFor_of_name (by decide)) rfl (Nat.le_of_ble_eq_true rfl) (Or.inl rfl) ?_
  intro p e s m below meth c A Q hx hb hml hown hts hK hA hZ hret ls hl hw
  replace hown : s.vm.findClass RX7 = some m.cls := hown
  have hl : lv_has ls 2 [(0, .ref (o 0)), (1, .int a1)] := hl
  have hZo := z_0_ok
  unfold f_X7_count at hf
  obtain ⟨H, hH⟩ : ∃ H, H = s.heap := ⟨_, rfl⟩
  obtain ⟨locs, hlc⟩ : ∃ locs : List Loc, locs = [] := ⟨_, rfl⟩
  have hw : Wd D A s.heap H locs (wX7 o cA oM) := by rw [hH, hlc]; exact hw
  have goal : W p l e rmX7_count s m ([.ref (o 0), .int a1] : List Value).toArray below meth c H locs 0 0 Q (F0 m 0 ls []) := by
    clear hH hlc
    refine lv_aload_n hx hb dX7_count_0 rfl (lv_at hl 0 rfl) ?_
    refine lv_iload_n hx hb dX7_count_1 rfl (lv_at hl 1 rfl) ?_
    obtain ⟨x1, g2, hf⟩ := bn1_e hf
    have fr := fr_X7_X7_oM o cA oM oM
    refine go_i (run_v (As := [.int a1]) (rest := []) ⟨hx, hb, hml, hown, hts⟩ (k_X7_howMany l D cA o oM a1 x1 g2 H.size) (cwV 1 hts gX7_count_X7_howMany rfl rfl rfl hd_X7_howMany ⟨Nat.le_of_ble_eq_true rfl, Nat.le_of_ble_eq_true rfl⟩) fr hw hK hA hZo hZ (ci := 7) rfl rfl rfl rfl hl.1 rfl (Nat.le_of_ble_eq_true rfl) dX7_count_2 ⟨Nat.zero_le _, Nat.zero_le _⟩) fr hw hA (fun H locs hw => ?_)
    have e0_ := sm1 hf
    exact hret _ _ _ _ _ hw e0_ (Or.inl rfl) dX7_count_5
  rw [hH, hlc] at goal
  exact goal
abbrev rmX7_mix : Room := { frames := 0, cells := 0, slots := 0, locals := 0 }
theorem hd_X7_mix : yX7_mix.cls = RX7 ∧ yX7_mix.cls ≠ "java/lang/invoke/MethodHandle" ∧ yX7_mix.cls ≠ "java/lang/invoke/VarHandle" ∧ (parseMethodDescriptor yX7_mix.desc).map (fun d => d.parameters.length) = some 1 := by decide +kernel
set_option maxHeartbeats 4000000 in
set_option maxRecDepth 100000 in
theorem k_X7_mix (l : Launch) (D : va_G) (cA : ClassId) (o : Nat → Nat) (oM : St) (a1 : Int64) (oM' : St) (hf : f_X7_mix oM a1 = some (oM')) : Mv l yX7_mix wsX7_mix rmX7_mix D cA z_0 [.ref (o 0), .long a1] (wX7 o cA oM) (wX7 o cA oM') := by
  refine Mv.of (cc := cX7_mix) (maxL := 3) (by decide) rfl (Nat.le_of_ble_eq_true rfl) ?_
  intro p e s m below meth c A Q hx hb hml hown hts hK hA hZ hret ls hl hw
  replace hown : s.vm.findClass RX7 = some m.cls := hown
  have hl : lv_has ls 3 [(0, .ref (o 0)), (1, .long a1)] := hl
  have hZo := z_0_ok
  have hi7 : ∀ w ∈ wsX70, w ∈ wsX7_mix := fun w h => List.mem_cons_of_mem _ (List.mem_append_right _ h)
  have q0 := hts (.constantLong RX7 367 31) (by decide +kernel)
  have q1 := hts (.fieldLink RX7 369 "ArcRingsModel" "h" "J") (by decide +kernel)
  unfold f_X7_mix at hf
  obtain ⟨H, hH⟩ : ∃ H, H = s.heap := ⟨_, rfl⟩
  obtain ⟨locs, hlc⟩ : ∃ locs : List Loc, locs = [] := ⟨_, rfl⟩
  have hw : Wd D A s.heap H locs (wX7 o cA oM) := by rw [hH, hlc]; exact hw
  have goal : W p l e rmX7_mix s m ([.ref (o 0), .long a1] : List Value).toArray below meth c H locs 0 0 Q (F0 m 0 ls []) := by
    clear hH hlc
    refine lv_aload_n hx hb dX7_mix_0 rfl (lv_at hl 0 rfl) ?_
    refine lv_ldc2 hx hb hown q0 dX7_mix_1 ?_
    refine lv_aload_n hx hb dX7_mix_4 rfl (lv_at hl 0 rfl) ?_
    refine w_get hx hb hts hi7 hown hK hw 0 rfl rfl 43 (by decide) q1 rfl (v := .long (oM.2.1 43)) rfl dX7_mix_5 ?_
    refine lv_lmul hx hb dX7_mix_8 ?_
    refine lv_lload_n hx hb dX7_mix_9 rfl (lv_at hl 1 rfl) ?_
    refine lv_ladd hx hb dX7_mix_10 ?_
    refine w_put (ws' := (wX7 o cA ((sL oM 43 ((31 * (oM.2.1 43)) + a1))))) hx hb hts hi7 tyX7 tyX7_ok nmX7 hown hK hw 0 rfl rfl 43 (by decide) q1 rfl rfl rfl rfl (Nat.le_of_ble_eq_true rfl) rfl dX7_mix_11 (fun H locs hw => ?_)
    have e0_ := sm1 hf
    exact hret _ _ _ _ (by rw [← e0_]; exact hw) dX7_mix_14
  rw [hH, hlc] at goal
  exact goal
abbrev rmX7_mixSheet : Room := { frames := 7, cells := 0, slots := 0, locals := 170 }
theorem hd_X7_mixSheet : yX7_mixSheet.cls = RX7 ∧ yX7_mixSheet.cls ≠ "java/lang/invoke/MethodHandle" ∧ yX7_mixSheet.cls ≠ "java/lang/invoke/VarHandle" ∧ (parseMethodDescriptor yX7_mixSheet.desc).map (fun d => d.parameters.length) = some 0 := by decide +kernel
set_option maxHeartbeats 4000000 in
set_option maxRecDepth 100000 in
theorem k_X7_mixSheet (l : Launch) (D : va_G) (cA : ClassId) (o : Nat → Nat) (oM : St) (oM' : St) (hf : f_X7_mixSheet oM = some (oM')) : Mv l yX7_mixSheet wsX7_mixSheet rmX7_mixSheet D cA z_0 [.ref (o 0)] (wX7 o cA oM) (wX7 o cA oM') := by
  refine Mv.of (cc := cX7_mixSheet) (maxL := 2) (by decide) rfl (Nat.le_of_ble_eq_true rfl) ?_
  intro p e s m below meth c A Q hx hb hml hown hts hK hA hZ hret ls hl hw
  replace hown : s.vm.findClass RX7 = some m.cls := hown
  have hl : lv_has ls 2 [(0, .ref (o 0))] := hl
  have hZo := z_0_ok
  have hi7 : ∀ w ∈ wsX70, w ∈ wsX7_mixSheet := fun w h => List.mem_cons_of_mem _ (List.mem_append_right _ h)
  have q0 := hts (.fieldLink RX7 121 "ArcRingsModel" "dots" "I") (by decide +kernel)
  have q1 := hts (.fieldLink RX7 259 "ArcRingsModel" "spotMany" "I") (by decide +kernel)
  have q2 := hts (.fieldLink RX7 319 "ArcRingsModel" "rings" "I") (by decide +kernel)
  have q3 := hts (.fieldLink RX7 124 "ArcRingsModel" "isHunted" "Z") (by decide +kernel)
  have h_L2 : ∀ (K : St → Option (St)), (∀ (z0 : St), K z0 = some (oM') → ∀ (H : Heap) (locs : List Loc) (ls : Array Slot), Wd D A s.heap H locs (wX7 o cA z0) → lv_has ls 2 [(0, .ref (o 0))] → W p l e rmX7_mixSheet s m ([.ref (o 0)] : List Value).toArray below meth c H locs 0 0 Q (F0 m 24 ls [])) → ∀ (n : Nat) (v1 : Int32) (oM : St), f_X7_mixSheet_L2 K n v1 oM = some (oM') → ∀ (H : Heap) (locs : List Loc) (ls : Array Slot), Wd D A s.heap H locs (wX7 o cA oM) → lv_has ls 2 [(0, .ref (o 0)), (1, .int v1)] → W p l e rmX7_mixSheet s m ([.ref (o 0)] : List Value).toArray below meth c H locs 0 0 Q (F0 m 2 ls []) := by
    intro K hK9 n
    induction n with
    | zero =>
      intro v1 oM hf
      have hf : none = some (oM') := hf
      cases hf
    | succ n ih =>
      intro v1 oM hf H locs ls hw hl
      have hf := (f_X7_mixSheet_L2_s K n v1 oM).symm.trans hf
      refine lv_iload_n hx hb dX7_mixSheet_2 rfl (lv_at hl 1 rfl) ?_
      refine lv_bipush (v := 8) hx hb dX7_mixSheet_3 (by decide) ?_
      refine lv_icmp_ge (tgt := 24) hx hb dX7_mixSheet_5 (by decide) (fun c1 => ?_) (fun c1 => ?_)
      · have hf := if_t c1 hf
        exact hK9 oM hf H locs ls hw (lv_sub hl [0] rfl)
      · have hf := if_f c1 hf
        refine lv_aload_n hx hb dX7_mixSheet_8 rfl (lv_at hl 0 rfl) ?_
        refine lv_aload_n hx hb dX7_mixSheet_9 rfl (lv_at hl 0 rfl) ?_
        refine lv_iload_n hx hb dX7_mixSheet_10 rfl (lv_at hl 1 rfl) ?_
        obtain ⟨x2, g3, hf⟩ := bn1_e hf
        have fr := fr_X7_X7_oM o cA oM oM
        refine go_i (run_v (As := [.int v1]) (rest := [.ref (o 0)]) ⟨hx, hb, hml, hown, hts⟩ (k_X7_aboutNow l D cA o oM v1 x2 g3 H.size) (cwV 1 hts gX7_mixSheet_X7_aboutNow rfl rfl rfl hd_X7_aboutNow ⟨Nat.le_of_ble_eq_true rfl, Nat.le_of_ble_eq_true rfl⟩) fr hw hK hA hZo hZ (ci := 7) rfl rfl rfl rfl hl.1 rfl (Nat.le_of_ble_eq_true rfl) dX7_mixSheet_11 ⟨Nat.zero_le _, Nat.zero_le _⟩) fr hw hA (fun H locs hw => ?_)
        refine lv_i2l (v := (x2 : Int32).toInt64) hx hb dX7_mixSheet_14 rfl ?_
        obtain ⟨oM4, g5, hf⟩ := bn1_e hf
        have fr := fr_X7_X7_oM o cA oM oM4
        refine go_v (run_v (As := [.long ((x2 : Int32).toInt64)]) (rest := []) ⟨hx, hb, hml, hown, hts⟩ (k_X7_mix l D cA o oM ((x2 : Int32).toInt64) oM4 g5 H.size) (cwV 1 hts gX7_mixSheet_X7_mix rfl rfl rfl hd_X7_mix ⟨Nat.le_of_ble_eq_true rfl, Nat.le_of_ble_eq_true rfl⟩) fr hw hK hA hZo hZ (ci := 7) rfl rfl rfl rfl hl.1 rfl (Nat.le_of_ble_eq_true rfl) dX7_mixSheet_15 ⟨Nat.zero_le _, Nat.zero_le _⟩) fr hw hA (fun H locs hw => ?_)
        refine lv_iinc (v := v1 + 1) (lv' := [(1, .int (v1 + 1)), (0, .ref (o 0))]) hx hb dX7_mixSheet_18 hl (k := 1) rfl (by rfl) (by decide) rfl (fun ls hl => ?_)
        refine lv_goto (tgt := 2) hx hb dX7_mixSheet_21 (by decide) ?_
        exact ih (v1 + 1) oM4 hf H locs ls hw (lv_sub hl [1, 0] rfl)
  have h_L26 : ∀ (K : St → Option (St)), (∀ (z0 : St), K z0 = some (oM') → ∀ (H : Heap) (locs : List Loc) (ls : Array Slot), Wd D A s.heap H locs (wX7 o cA z0) → lv_has ls 2 [(0, .ref (o 0))] → W p l e rmX7_mixSheet s m ([.ref (o 0)] : List Value).toArray below meth c H locs 0 0 Q (F0 m 57 ls [])) → ∀ (n : Nat) (v1 : Int32) (oM : St), f_X7_mixSheet_L26 K n v1 oM = some (oM') → ∀ (H : Heap) (locs : List Loc) (ls : Array Slot), Wd D A s.heap H locs (wX7 o cA oM) → lv_has ls 2 [(0, .ref (o 0)), (1, .int v1)] → W p l e rmX7_mixSheet s m ([.ref (o 0)] : List Value).toArray below meth c H locs 0 0 Q (F0 m 26 ls []) := by
    intro K hK9 n
    induction n with
    | zero =>
      intro v1 oM hf
      have hf : none = some (oM') := hf
      cases hf
    | succ n ih =>
      intro v1 oM hf H locs ls hw hl
      have hf := (f_X7_mixSheet_L26_s K n v1 oM).symm.trans hf
      refine lv_iload_n hx hb dX7_mixSheet_26 rfl (lv_at hl 1 rfl) ?_
      refine lv_iconst (v := 4) hx hb dX7_mixSheet_27 (by decide) ?_
      refine lv_aload_n hx hb dX7_mixSheet_28 rfl (lv_at hl 0 rfl) ?_
      refine w_get hx hb hts hi7 hown hK hw 0 rfl rfl 5 (by decide) q0 rfl (v := .int (oM.1 5)) rfl dX7_mixSheet_29 ?_
      refine lv_imul hx hb dX7_mixSheet_32 ?_
      refine lv_icmp_ge (tgt := 57) hx hb dX7_mixSheet_33 (by decide) (fun c7 => ?_) (fun c7 => ?_)
      · have hf := if_t c7 hf
        exact hK9 oM hf H locs ls hw (lv_sub hl [0] rfl)
      · have hf := if_f c7 hf
        refine lv_aload_n hx hb dX7_mixSheet_36 rfl (lv_at hl 0 rfl) ?_
        refine lv_aload_n hx hb dX7_mixSheet_37 rfl (lv_at hl 0 rfl) ?_
        refine lv_iload_n hx hb dX7_mixSheet_38 rfl (lv_at hl 1 rfl) ?_
        refine lv_iconst (v := 4) hx hb dX7_mixSheet_39 (by decide) ?_
        refine lv_idiv hx hb dX7_mixSheet_40 (by decide) ?_
        refine lv_iload_n hx hb dX7_mixSheet_41 rfl (lv_at hl 1 rfl) ?_
        refine lv_iconst (v := 4) hx hb dX7_mixSheet_42 (by decide) ?_
        refine lv_irem hx hb dX7_mixSheet_43 (by decide) ?_
        obtain ⟨x8, g9, hf⟩ := bn1_e hf
        have fr := fr_X7_X7_oM o cA oM oM
        refine go_i (run_v (As := [.int (v1 / 4), .int (v1 - v1 / 4 * 4)]) (rest := [.ref (o 0)]) ⟨hx, hb, hml, hown, hts⟩ (k_X7_toldNow l D cA o oM (v1 / 4) (v1 - v1 / 4 * 4) x8 g9 H.size) (cwV 2 hts gX7_mixSheet_X7_toldNow rfl rfl rfl hd_X7_toldNow ⟨Nat.le_of_ble_eq_true rfl, Nat.le_of_ble_eq_true rfl⟩) fr hw hK hA hZo hZ (ci := 7) rfl rfl rfl rfl hl.1 rfl (Nat.le_of_ble_eq_true rfl) dX7_mixSheet_44 ⟨Nat.zero_le _, Nat.zero_le _⟩) fr hw hA (fun H locs hw => ?_)
        refine lv_i2l (v := (x8 : Int32).toInt64) hx hb dX7_mixSheet_47 rfl ?_
        obtain ⟨oM10, g11, hf⟩ := bn1_e hf
        have fr := fr_X7_X7_oM o cA oM oM10
        refine go_v (run_v (As := [.long ((x8 : Int32).toInt64)]) (rest := []) ⟨hx, hb, hml, hown, hts⟩ (k_X7_mix l D cA o oM ((x8 : Int32).toInt64) oM10 g11 H.size) (cwV 1 hts gX7_mixSheet_X7_mix rfl rfl rfl hd_X7_mix ⟨Nat.le_of_ble_eq_true rfl, Nat.le_of_ble_eq_true rfl⟩) fr hw hK hA hZo hZ (ci := 7) rfl rfl rfl rfl hl.1 rfl (Nat.le_of_ble_eq_true rfl) dX7_mixSheet_48 ⟨Nat.zero_le _, Nat.zero_le _⟩) fr hw hA (fun H locs hw => ?_)
        refine lv_iinc (v := v1 + 1) (lv' := [(1, .int (v1 + 1)), (0, .ref (o 0))]) hx hb dX7_mixSheet_51 hl (k := 1) rfl (by rfl) (by decide) rfl (fun ls hl => ?_)
        refine lv_goto (tgt := 26) hx hb dX7_mixSheet_54 (by decide) ?_
        exact ih (v1 + 1) oM10 hf H locs ls hw (lv_sub hl [1, 0] rfl)
  have h_L59 : ∀ (K : St → Option (St)), (∀ (z0 : St), K z0 = some (oM') → ∀ (H : Heap) (locs : List Loc) (ls : Array Slot), Wd D A s.heap H locs (wX7 o cA z0) → lv_has ls 2 [(0, .ref (o 0))] → W p l e rmX7_mixSheet s m ([.ref (o 0)] : List Value).toArray below meth c H locs 0 0 Q (F0 m 80 ls [])) → ∀ (n : Nat) (v1 : Int32) (oM : St), f_X7_mixSheet_L59 K n v1 oM = some (oM') → ∀ (H : Heap) (locs : List Loc) (ls : Array Slot), Wd D A s.heap H locs (wX7 o cA oM) → lv_has ls 2 [(0, .ref (o 0)), (1, .int v1)] → W p l e rmX7_mixSheet s m ([.ref (o 0)] : List Value).toArray below meth c H locs 0 0 Q (F0 m 59 ls []) := by
    intro K hK9 n
    induction n with
    | zero =>
      intro v1 oM hf
      have hf : none = some (oM') := hf
      cases hf
    | succ n ih =>
      intro v1 oM hf H locs ls hw hl
      have hf := (f_X7_mixSheet_L59_s K n v1 oM).symm.trans hf
      refine lv_iload_n hx hb dX7_mixSheet_59 rfl (lv_at hl 1 rfl) ?_
      refine lv_iconst (v := 4) hx hb dX7_mixSheet_60 (by decide) ?_
      refine lv_icmp_ge (tgt := 80) hx hb dX7_mixSheet_61 (by decide) (fun c13 => ?_) (fun c13 => ?_)
      · have hf := if_t c13 hf
        exact hK9 oM hf H locs ls hw (lv_sub hl [0] rfl)
      · have hf := if_f c13 hf
        refine lv_aload_n hx hb dX7_mixSheet_64 rfl (lv_at hl 0 rfl) ?_
        refine lv_aload_n hx hb dX7_mixSheet_65 rfl (lv_at hl 0 rfl) ?_
        refine lv_iload_n hx hb dX7_mixSheet_66 rfl (lv_at hl 1 rfl) ?_
        obtain ⟨x14, oM15, g16, hf⟩ := bn2_e hf
        have fr := fr_X7_X7_oM o cA oM oM15
        refine go_i (run_v (As := [.int v1]) (rest := [.ref (o 0)]) ⟨hx, hb, hml, hown, hts⟩ (k_X7_spotsNow l D cA o oM v1 x14 oM15 g16 H.size) (cwV 1 hts gX7_mixSheet_X7_spotsNow rfl rfl rfl hd_X7_spotsNow ⟨Nat.le_of_ble_eq_true rfl, Nat.le_of_ble_eq_true rfl⟩) fr hw hK hA hZo hZ (ci := 7) rfl rfl rfl rfl hl.1 rfl (Nat.le_of_ble_eq_true rfl) dX7_mixSheet_67 ⟨Nat.zero_le _, Nat.zero_le _⟩) fr hw hA (fun H locs hw => ?_)
        refine lv_i2l (v := (x14 : Int32).toInt64) hx hb dX7_mixSheet_70 rfl ?_
        obtain ⟨oM17, g18, hf⟩ := bn1_e hf
        have fr := fr_X7_X7_oM o cA oM15 oM17
        refine go_v (run_v (As := [.long ((x14 : Int32).toInt64)]) (rest := []) ⟨hx, hb, hml, hown, hts⟩ (k_X7_mix l D cA o oM15 ((x14 : Int32).toInt64) oM17 g18 H.size) (cwV 1 hts gX7_mixSheet_X7_mix rfl rfl rfl hd_X7_mix ⟨Nat.le_of_ble_eq_true rfl, Nat.le_of_ble_eq_true rfl⟩) fr hw hK hA hZo hZ (ci := 7) rfl rfl rfl rfl hl.1 rfl (Nat.le_of_ble_eq_true rfl) dX7_mixSheet_71 ⟨Nat.zero_le _, Nat.zero_le _⟩) fr hw hA (fun H locs hw => ?_)
        refine lv_iinc (v := v1 + 1) (lv' := [(1, .int (v1 + 1)), (0, .ref (o 0))]) hx hb dX7_mixSheet_74 hl (k := 1) rfl (by rfl) (by decide) rfl (fun ls hl => ?_)
        refine lv_goto (tgt := 59) hx hb dX7_mixSheet_77 (by decide) ?_
        exact ih (v1 + 1) oM17 hf H locs ls hw (lv_sub hl [1, 0] rfl)
  have h_L82 : ∀ (K : St → Option (St)), (∀ (z0 : St), K z0 = some (oM') → ∀ (H : Heap) (locs : List Loc) (ls : Array Slot), Wd D A s.heap H locs (wX7 o cA z0) → lv_has ls 2 [(0, .ref (o 0))] → W p l e rmX7_mixSheet s m ([.ref (o 0)] : List Value).toArray below meth c H locs 0 0 Q (F0 m 116 ls [])) → ∀ (n : Nat) (v1 : Int32) (oM : St), f_X7_mixSheet_L82 K n v1 oM = some (oM') → ∀ (H : Heap) (locs : List Loc) (ls : Array Slot), Wd D A s.heap H locs (wX7 o cA oM) → lv_has ls 2 [(0, .ref (o 0)), (1, .int v1)] → W p l e rmX7_mixSheet s m ([.ref (o 0)] : List Value).toArray below meth c H locs 0 0 Q (F0 m 82 ls []) := by
    intro K hK9 n
    induction n with
    | zero =>
      intro v1 oM hf
      have hf : none = some (oM') := hf
      cases hf
    | succ n ih =>
      intro v1 oM hf H locs ls hw hl
      have hf := (f_X7_mixSheet_L82_s K n v1 oM).symm.trans hf
      refine lv_iload_n hx hb dX7_mixSheet_82 rfl (lv_at hl 1 rfl) ?_
      refine lv_bipush (v := 7) hx hb dX7_mixSheet_83 (by decide) ?_
      refine lv_aload_n hx hb dX7_mixSheet_85 rfl (lv_at hl 0 rfl) ?_
      refine w_get hx hb hts hi7 hown hK hw 0 rfl rfl 36 (by decide) q1 rfl (v := .int (oM.1 36)) rfl dX7_mixSheet_86 ?_
      refine lv_imul hx hb dX7_mixSheet_89 ?_
      refine lv_icmp_ge (tgt := 116) hx hb dX7_mixSheet_90 (by decide) (fun c20 => ?_) (fun c20 => ?_)
      · have hf := if_t c20 hf
        exact hK9 oM hf H locs ls hw (lv_sub hl [0] rfl)
      · have hf := if_f c20 hf
        refine lv_aload_n hx hb dX7_mixSheet_93 rfl (lv_at hl 0 rfl) ?_
        refine lv_aload_n hx hb dX7_mixSheet_94 rfl (lv_at hl 0 rfl) ?_
        refine lv_iload_n hx hb dX7_mixSheet_95 rfl (lv_at hl 1 rfl) ?_
        refine lv_bipush (v := 7) hx hb dX7_mixSheet_96 (by decide) ?_
        refine lv_idiv hx hb dX7_mixSheet_98 (by decide) ?_
        refine lv_iload_n hx hb dX7_mixSheet_99 rfl (lv_at hl 1 rfl) ?_
        refine lv_bipush (v := 7) hx hb dX7_mixSheet_100 (by decide) ?_
        refine lv_irem hx hb dX7_mixSheet_102 (by decide) ?_
        obtain ⟨x21, g22, hf⟩ := bn1_e hf
        have fr := fr_X7_X7_oM o cA oM oM
        refine go_i (run_v (As := [.int (v1 / 7), .int (v1 - v1 / 7 * 7)]) (rest := [.ref (o 0)]) ⟨hx, hb, hml, hown, hts⟩ (k_X7_spotNow l D cA o oM (v1 / 7) (v1 - v1 / 7 * 7) x21 g22 H.size) (cwV 2 hts gX7_mixSheet_X7_spotNow rfl rfl rfl hd_X7_spotNow ⟨Nat.le_of_ble_eq_true rfl, Nat.le_of_ble_eq_true rfl⟩) fr hw hK hA hZo hZ (ci := 7) rfl rfl rfl rfl hl.1 rfl (Nat.le_of_ble_eq_true rfl) dX7_mixSheet_103 ⟨Nat.zero_le _, Nat.zero_le _⟩) fr hw hA (fun H locs hw => ?_)
        refine lv_i2l (v := (x21 : Int32).toInt64) hx hb dX7_mixSheet_106 rfl ?_
        obtain ⟨oM23, g24, hf⟩ := bn1_e hf
        have fr := fr_X7_X7_oM o cA oM oM23
        refine go_v (run_v (As := [.long ((x21 : Int32).toInt64)]) (rest := []) ⟨hx, hb, hml, hown, hts⟩ (k_X7_mix l D cA o oM ((x21 : Int32).toInt64) oM23 g24 H.size) (cwV 1 hts gX7_mixSheet_X7_mix rfl rfl rfl hd_X7_mix ⟨Nat.le_of_ble_eq_true rfl, Nat.le_of_ble_eq_true rfl⟩) fr hw hK hA hZo hZ (ci := 7) rfl rfl rfl rfl hl.1 rfl (Nat.le_of_ble_eq_true rfl) dX7_mixSheet_107 ⟨Nat.zero_le _, Nat.zero_le _⟩) fr hw hA (fun H locs hw => ?_)
        refine lv_iinc (v := v1 + 1) (lv' := [(1, .int (v1 + 1)), (0, .ref (o 0))]) hx hb dX7_mixSheet_110 hl (k := 1) rfl (by rfl) (by decide) rfl (fun ls hl => ?_)
        refine lv_goto (tgt := 82) hx hb dX7_mixSheet_113 (by decide) ?_
        exact ih (v1 + 1) oM23 hf H locs ls hw (lv_sub hl [1, 0] rfl)
  have h_L118 : ∀ (n : Nat) (v1 : Int32) (oM : St), f_X7_mixSheet_L118  n v1 oM = some (oM') → ∀ (H : Heap) (locs : List Loc) (ls : Array Slot), Wd D A s.heap H locs (wX7 o cA oM) → lv_has ls 2 [(0, .ref (o 0)), (1, .int v1)] → W p l e rmX7_mixSheet s m ([.ref (o 0)] : List Value).toArray below meth c H locs 0 0 Q (F0 m 118 ls []) := by
    intro n
    induction n with
    | zero =>
      intro v1 oM hf
      have hf : none = some (oM') := hf
      cases hf
    | succ n ih =>
      intro v1 oM hf H locs ls hw hl
      have hf := (f_X7_mixSheet_L118_s  n v1 oM).symm.trans hf
      refine lv_iload_n hx hb dX7_mixSheet_118 rfl (lv_at hl 1 rfl) ?_
      refine lv_bipush (v := 7) hx hb dX7_mixSheet_119 (by decide) ?_
      refine lv_aload_n hx hb dX7_mixSheet_121 rfl (lv_at hl 0 rfl) ?_
      refine w_get hx hb hts hi7 hown hK hw 0 rfl rfl 11 (by decide) q2 rfl (v := .int (oM.1 11)) rfl dX7_mixSheet_122 ?_
      refine lv_imul hx hb dX7_mixSheet_125 ?_
      refine lv_icmp_ge (tgt := 159) hx hb dX7_mixSheet_126 (by decide) (fun c26 => ?_) (fun c26 => ?_)
      · have hf := if_t c26 hf
        have e0_ := sm1 hf
        exact hret _ _ _ _ (by rw [← e0_]; exact hw) dX7_mixSheet_159
      · have hf := if_f c26 hf
        refine lv_aload_n hx hb dX7_mixSheet_129 rfl (lv_at hl 0 rfl) ?_
        refine w_get hx hb hts hi7 hown hK hw 0 rfl rfl 10 (by decide) q3 rfl (v := .int (oM.1 10)) rfl dX7_mixSheet_130 ?_
        refine lv_if_eq (tgt := 159) hx hb dX7_mixSheet_133 (by decide) (fun c27 => ?_) (fun c27 => ?_)
        · have hf := if_t c27 hf
          have e0_ := sm1 hf
          exact hret _ _ _ _ (by rw [← e0_]; exact hw) dX7_mixSheet_159
        · have hf := if_f c27 hf
          refine lv_aload_n hx hb dX7_mixSheet_136 rfl (lv_at hl 0 rfl) ?_
          refine lv_aload_n hx hb dX7_mixSheet_137 rfl (lv_at hl 0 rfl) ?_
          refine lv_iload_n hx hb dX7_mixSheet_138 rfl (lv_at hl 1 rfl) ?_
          refine lv_bipush (v := 7) hx hb dX7_mixSheet_139 (by decide) ?_
          refine lv_idiv hx hb dX7_mixSheet_141 (by decide) ?_
          refine lv_iload_n hx hb dX7_mixSheet_142 rfl (lv_at hl 1 rfl) ?_
          refine lv_bipush (v := 7) hx hb dX7_mixSheet_143 (by decide) ?_
          refine lv_irem hx hb dX7_mixSheet_145 (by decide) ?_
          obtain ⟨x28, g29, hf⟩ := bn1_e hf
          have fr := fr_X7_X7_oM o cA oM oM
          refine go_i (run_v (As := [.int (v1 / 7), .int (v1 - v1 / 7 * 7)]) (rest := [.ref (o 0)]) ⟨hx, hb, hml, hown, hts⟩ (k_X7_ringNow l D cA o oM (v1 / 7) (v1 - v1 / 7 * 7) x28 g29 H.size) (cwV 2 hts gX7_mixSheet_X7_ringNow rfl rfl rfl hd_X7_ringNow ⟨Nat.le_of_ble_eq_true rfl, Nat.le_of_ble_eq_true rfl⟩) fr hw hK hA hZo hZ (ci := 7) rfl rfl rfl rfl hl.1 rfl (Nat.le_of_ble_eq_true rfl) dX7_mixSheet_146 ⟨Nat.zero_le _, Nat.zero_le _⟩) fr hw hA (fun H locs hw => ?_)
          refine lv_i2l (v := (x28 : Int32).toInt64) hx hb dX7_mixSheet_149 rfl ?_
          obtain ⟨oM30, g31, hf⟩ := bn1_e hf
          have fr := fr_X7_X7_oM o cA oM oM30
          refine go_v (run_v (As := [.long ((x28 : Int32).toInt64)]) (rest := []) ⟨hx, hb, hml, hown, hts⟩ (k_X7_mix l D cA o oM ((x28 : Int32).toInt64) oM30 g31 H.size) (cwV 1 hts gX7_mixSheet_X7_mix rfl rfl rfl hd_X7_mix ⟨Nat.le_of_ble_eq_true rfl, Nat.le_of_ble_eq_true rfl⟩) fr hw hK hA hZo hZ (ci := 7) rfl rfl rfl rfl hl.1 rfl (Nat.le_of_ble_eq_true rfl) dX7_mixSheet_150 ⟨Nat.zero_le _, Nat.zero_le _⟩) fr hw hA (fun H locs hw => ?_)
          refine lv_iinc (v := v1 + 1) (lv' := [(1, .int (v1 + 1)), (0, .ref (o 0))]) hx hb dX7_mixSheet_153 hl (k := 1) rfl (by rfl) (by decide) rfl (fun ls hl => ?_)
          refine lv_goto (tgt := 118) hx hb dX7_mixSheet_156 (by decide) ?_
          exact ih (v1 + 1) oM30 hf H locs ls hw (lv_sub hl [1, 0] rfl)
  unfold f_X7_mixSheet at hf
  obtain ⟨H, hH⟩ : ∃ H, H = s.heap := ⟨_, rfl⟩
  obtain ⟨locs, hlc⟩ : ∃ locs : List Loc, locs = [] := ⟨_, rfl⟩
  have hw : Wd D A s.heap H locs (wX7 o cA oM) := by rw [hH, hlc]; exact hw
  have goal : W p l e rmX7_mixSheet s m ([.ref (o 0)] : List Value).toArray below meth c H locs 0 0 Q (F0 m 0 ls []) := by
    clear hH hlc
    refine lv_iconst (v := 0) hx hb dX7_mixSheet_0 (by decide) ?_
    refine lv_istore_n (lv' := [(1, .int 0), (0, .ref (o 0))]) hx hb dX7_mixSheet_1 rfl hl (by decide) rfl (fun ls hl => ?_)
    refine h_L2  _ ?_ _ 0 oM hf H locs ls hw (lv_sub hl [1, 0] rfl)
    intro oM6 hf H locs ls hw hl
    refine lv_iconst (v := 0) hx hb dX7_mixSheet_24 (by decide) ?_
    refine lv_istore_n (lv' := [(1, .int 0), (0, .ref (o 0))]) hx hb dX7_mixSheet_25 rfl hl (by decide) rfl (fun ls hl => ?_)
    refine h_L26  _ ?_ _ 0 oM6 hf H locs ls hw (lv_sub hl [1, 0] rfl)
    intro oM12 hf H locs ls hw hl
    refine lv_iconst (v := 0) hx hb dX7_mixSheet_57 (by decide) ?_
    refine lv_istore_n (lv' := [(1, .int 0), (0, .ref (o 0))]) hx hb dX7_mixSheet_58 rfl hl (by decide) rfl (fun ls hl => ?_)
    refine h_L59  _ ?_ _ 0 oM12 hf H locs ls hw (lv_sub hl [1, 0] rfl)
    intro oM19 hf H locs ls hw hl
    refine lv_iconst (v := 0) hx hb dX7_mixSheet_80 (by decide) ?_
    refine lv_istore_n (lv' := [(1, .int 0), (0, .ref (o 0))]) hx hb dX7_mixSheet_81 rfl hl (by decide) rfl (fun ls hl => ?_)
    refine h_L82  _ ?_ _ 0 oM19 hf H locs ls hw (lv_sub hl [1, 0] rfl)
    intro oM25 hf H locs ls hw hl
    refine lv_iconst (v := 0) hx hb dX7_mixSheet_116 (by decide) ?_
    refine lv_istore_n (lv' := [(1, .int 0), (0, .ref (o 0))]) hx hb dX7_mixSheet_117 rfl hl (by decide) rfl (fun ls hl => ?_)
    exact h_L118  _ 0 oM25 hf H locs ls hw (lv_sub hl [1, 0] rfl)
  rw [hH, hlc] at goal
  exact goal
abbrev rmX7_digest : Room := { frames := 8, cells := 0, slots := 0, locals := 191 }
theorem hd_X7_digest : yX7_digest.cls = RX7 ∧ yX7_digest.cls ≠ "java/lang/invoke/MethodHandle" ∧ yX7_digest.cls ≠ "java/lang/invoke/VarHandle" ∧ (parseMethodDescriptor yX7_digest.desc).map (fun d => d.parameters.length) = some 0 := by decide +kernel
set_option maxHeartbeats 4000000 in
set_option maxRecDepth 100000 in
theorem k_X7_digest (l : Launch) (D : va_G) (cA : ClassId) (o : Nat → Nat) (oM : St) (r : Int64) (oM' : St) (hf : f_X7_digest oM = some (r, oM')) : Ml l yX7_digest wsX7_digest rmX7_digest D cA z_0 [.ref (o 0)] (wX7 o cA oM) r (wX7 o cA oM') := by
  refine Ml.of (cc := cX7_digest) (maxL := 2) (by decide) rfl (Nat.le_of_ble_eq_true rfl) ?_
  intro p e s m below meth c A Q hx hb hml hown hts hK hA hZ hret ls hl hw
  replace hown : s.vm.findClass RX7 = some m.cls := hown
  have hl : lv_has ls 2 [(0, .ref (o 0))] := hl
  have hZo := z_0_ok
  have hi7 : ∀ w ∈ wsX70, w ∈ wsX7_digest := fun w h => List.mem_cons_of_mem _ (List.mem_append_right _ h)
  have q0 := hts (.constantLong RX7 376 1559) (by decide +kernel)
  have q1 := hts (.fieldLink RX7 369 "ArcRingsModel" "h" "J") (by decide +kernel)
  have q2 := hts (.fieldLink RX7 62 "ArcRingsModel" "pageLength" "I") (by decide +kernel)
  have q3 := hts (.fieldLink RX7 7 "ArcRingsModel" "page" "[I") (by decide +kernel)
  have h_L20 : ∀ (K : St → Option (Int64 × St)), (∀ (z0 : St), K z0 = some (r, oM') → ∀ (H : Heap) (locs : List Loc) (ls : Array Slot), Wd D A s.heap H locs (wX7 o cA z0) → lv_has ls 2 [(0, .ref (o 0))] → W p l e rmX7_digest s m ([.ref (o 0)] : List Value).toArray below meth c H locs 0 0 Q (F0 m 45 ls [])) → ∀ (n : Nat) (v1 : Int32) (oM : St), f_X7_digest_L20 K n v1 oM = some (r, oM') → ∀ (H : Heap) (locs : List Loc) (ls : Array Slot), Wd D A s.heap H locs (wX7 o cA oM) → lv_has ls 2 [(0, .ref (o 0)), (1, .int v1)] → W p l e rmX7_digest s m ([.ref (o 0)] : List Value).toArray below meth c H locs 0 0 Q (F0 m 20 ls []) := by
    intro K hK9 n
    induction n with
    | zero =>
      intro v1 oM hf
      have hf : none = some (r, oM') := hf
      cases hf
    | succ n ih =>
      intro v1 oM hf H locs ls hw hl
      have hf := (f_X7_digest_L20_s K n v1 oM).symm.trans hf
      refine lv_iload_n hx hb dX7_digest_20 rfl (lv_at hl 1 rfl) ?_
      refine lv_aload_n hx hb dX7_digest_21 rfl (lv_at hl 0 rfl) ?_
      refine w_get hx hb hts hi7 hown hK hw 0 rfl rfl 0 (by decide) q2 rfl (v := .int (oM.1 0)) rfl dX7_digest_22 ?_
      refine lv_icmp_ge (tgt := 45) hx hb dX7_digest_25 (by decide) (fun c4 => ?_) (fun c4 => ?_)
      · have hf := if_t c4 hf
        exact hK9 oM hf H locs ls hw (lv_sub hl [0] rfl)
      · have hf := if_f c4 hf
        refine lv_aload_n hx hb dX7_digest_28 rfl (lv_at hl 0 rfl) ?_
        refine lv_aload_n hx hb dX7_digest_29 rfl (lv_at hl 0 rfl) ?_
        refine w_get hx hb hts hi7 hown hK hw 0 rfl rfl 1 (by decide) q3 rfl (v := .ref (o 1)) rfl dX7_digest_30 ?_
        refine lv_iload_n hx hb dX7_digest_33 rfl (lv_at hl 1 rfl) ?_
        obtain ⟨x5, g6, hf⟩ := bn1_e hf
        refine w_ald hx hb hK hw 1 rfl g6 dX7_digest_34 ?_
        refine lv_i2l (v := (x5 : Int32).toInt64) hx hb dX7_digest_35 rfl ?_
        obtain ⟨oM7, g8, hf⟩ := bn1_e hf
        have fr := fr_X7_X7_oM o cA oM oM7
        refine go_v (run_v (As := [.long ((x5 : Int32).toInt64)]) (rest := []) ⟨hx, hb, hml, hown, hts⟩ (k_X7_mix l D cA o oM ((x5 : Int32).toInt64) oM7 g8 H.size) (cwV 1 hts gX7_digest_X7_mix rfl rfl rfl hd_X7_mix ⟨Nat.le_of_ble_eq_true rfl, Nat.le_of_ble_eq_true rfl⟩) fr hw hK hA hZo hZ (ci := 7) rfl rfl rfl rfl hl.1 rfl (Nat.le_of_ble_eq_true rfl) dX7_digest_36 ⟨Nat.zero_le _, Nat.zero_le _⟩) fr hw hA (fun H locs hw => ?_)
        refine lv_iinc (v := v1 + 1) (lv' := [(1, .int (v1 + 1)), (0, .ref (o 0))]) hx hb dX7_digest_39 hl (k := 1) rfl (by rfl) (by decide) rfl (fun ls hl => ?_)
        refine lv_goto (tgt := 20) hx hb dX7_digest_42 (by decide) ?_
        exact ih (v1 + 1) oM7 hf H locs ls hw (lv_sub hl [1, 0] rfl)
  have h_L47 : ∀ (n : Nat) (v1 : Int32) (oM : St), f_X7_digest_L47  n v1 oM = some (r, oM') → ∀ (H : Heap) (locs : List Loc) (ls : Array Slot), Wd D A s.heap H locs (wX7 o cA oM) → lv_has ls 2 [(0, .ref (o 0)), (1, .int v1)] → W p l e rmX7_digest s m ([.ref (o 0)] : List Value).toArray below meth c H locs 0 0 Q (F0 m 47 ls []) := by
    intro n
    induction n with
    | zero =>
      intro v1 oM hf
      have hf : none = some (r, oM') := hf
      cases hf
    | succ n ih =>
      intro v1 oM hf H locs ls hw hl
      have hf := (f_X7_digest_L47_s  n v1 oM).symm.trans hf
      refine lv_iload_n hx hb dX7_digest_47 rfl (lv_at hl 1 rfl) ?_
      refine lv_bipush (v := 7) hx hb dX7_digest_48 (by decide) ?_
      refine lv_icmp_ge (tgt := 69) hx hb dX7_digest_50 (by decide) (fun c10 => ?_) (fun c10 => ?_)
      · have hf := if_t c10 hf
        refine lv_aload_n hx hb dX7_digest_69 rfl (lv_at hl 0 rfl) ?_
        refine w_get hx hb hts hi7 hown hK hw 0 rfl rfl 43 (by decide) q1 rfl (v := .long (oM.2.1 43)) rfl dX7_digest_70 ?_
        obtain ⟨e0_, e1_⟩ := sm2 hf
        exact hret _ _ _ _ _ (by rw [← e1_]; exact hw) e0_ dX7_digest_73
      · have hf := if_f c10 hf
        refine lv_aload_n hx hb dX7_digest_53 rfl (lv_at hl 0 rfl) ?_
        refine lv_aload_n hx hb dX7_digest_54 rfl (lv_at hl 0 rfl) ?_
        refine lv_iload_n hx hb dX7_digest_55 rfl (lv_at hl 1 rfl) ?_
        obtain ⟨x11, g12, hf⟩ := bn1_e hf
        have fr := fr_X7_X7_oM o cA oM oM
        refine go_i (run_v (As := [.int v1]) (rest := [.ref (o 0)]) ⟨hx, hb, hml, hown, hts⟩ (k_X7_howMany l D cA o oM v1 x11 g12 H.size) (cwV 1 hts gX7_digest_X7_howMany rfl rfl rfl hd_X7_howMany ⟨Nat.le_of_ble_eq_true rfl, Nat.le_of_ble_eq_true rfl⟩) fr hw hK hA hZo hZ (ci := 7) rfl rfl rfl rfl hl.1 rfl (Nat.le_of_ble_eq_true rfl) dX7_digest_56 ⟨Nat.zero_le _, Nat.zero_le _⟩) fr hw hA (fun H locs hw => ?_)
        refine lv_i2l (v := (x11 : Int32).toInt64) hx hb dX7_digest_59 rfl ?_
        obtain ⟨oM13, g14, hf⟩ := bn1_e hf
        have fr := fr_X7_X7_oM o cA oM oM13
        refine go_v (run_v (As := [.long ((x11 : Int32).toInt64)]) (rest := []) ⟨hx, hb, hml, hown, hts⟩ (k_X7_mix l D cA o oM ((x11 : Int32).toInt64) oM13 g14 H.size) (cwV 1 hts gX7_digest_X7_mix rfl rfl rfl hd_X7_mix ⟨Nat.le_of_ble_eq_true rfl, Nat.le_of_ble_eq_true rfl⟩) fr hw hK hA hZo hZ (ci := 7) rfl rfl rfl rfl hl.1 rfl (Nat.le_of_ble_eq_true rfl) dX7_digest_60 ⟨Nat.zero_le _, Nat.zero_le _⟩) fr hw hA (fun H locs hw => ?_)
        refine lv_iinc (v := v1 + 1) (lv' := [(1, .int (v1 + 1)), (0, .ref (o 0))]) hx hb dX7_digest_63 hl (k := 1) rfl (by rfl) (by decide) rfl (fun ls hl => ?_)
        refine lv_goto (tgt := 47) hx hb dX7_digest_66 (by decide) ?_
        exact ih (v1 + 1) oM13 hf H locs ls hw (lv_sub hl [1, 0] rfl)
  unfold f_X7_digest at hf
  obtain ⟨H, hH⟩ : ∃ H, H = s.heap := ⟨_, rfl⟩
  obtain ⟨locs, hlc⟩ : ∃ locs : List Loc, locs = [] := ⟨_, rfl⟩
  have hw : Wd D A s.heap H locs (wX7 o cA oM) := by rw [hH, hlc]; exact hw
  have goal : W p l e rmX7_digest s m ([.ref (o 0)] : List Value).toArray below meth c H locs 0 0 Q (F0 m 0 ls []) := by
    clear hH hlc
    refine lv_aload_n hx hb dX7_digest_0 rfl (lv_at hl 0 rfl) ?_
    refine lv_ldc2 hx hb hown q0 dX7_digest_1 ?_
    refine w_put (ws' := (wX7 o cA ((sL oM 43 1559)))) hx hb hts hi7 tyX7 tyX7_ok nmX7 hown hK hw 0 rfl rfl 43 (by decide) q1 rfl rfl rfl rfl (Nat.le_of_ble_eq_true rfl) rfl dX7_digest_4 (fun H locs hw => ?_)
    refine lv_aload_n hx hb dX7_digest_7 rfl (lv_at hl 0 rfl) ?_
    obtain ⟨x1, g2, hf⟩ := bn1_e hf
    have fr := fr_X7_X7_oM o cA ((sL oM 43 1559)) ((sL oM 43 1559))
    refine go_i (run_v (As := []) (rest := []) ⟨hx, hb, hml, hown, hts⟩ (k_X7_isSheet l D cA o ((sL oM 43 1559)) x1 g2 H.size) (cwV 0 hts gX7_digest_X7_isSheet rfl rfl rfl hd_X7_isSheet ⟨Nat.le_of_ble_eq_true rfl, Nat.le_of_ble_eq_true rfl⟩) fr hw hK hA hZo hZ (ci := 7) rfl rfl rfl rfl hl.1 rfl (Nat.le_of_ble_eq_true rfl) dX7_digest_8 ⟨Nat.zero_le _, Nat.zero_le _⟩) fr hw hA (fun H locs hw => ?_)
    refine lv_if_eq (tgt := 18) hx hb dX7_digest_11 (by decide) (fun c3 => ?_) (fun c3 => ?_)
    · have hf := if_t c3 hf
      refine lv_iconst (v := 0) hx hb dX7_digest_18 (by decide) ?_
      refine lv_istore_n (lv' := [(1, .int 0), (0, .ref (o 0))]) hx hb dX7_digest_19 rfl hl (by decide) rfl (fun ls hl => ?_)
      refine h_L20  _ ?_ _ 0 ((sL oM 43 1559)) hf H locs ls hw (lv_sub hl [1, 0] rfl)
      intro oM9 hf H locs ls hw hl
      refine lv_iconst (v := 0) hx hb dX7_digest_45 (by decide) ?_
      refine lv_istore_n (lv' := [(1, .int 0), (0, .ref (o 0))]) hx hb dX7_digest_46 rfl hl (by decide) rfl (fun ls hl => ?_)
      exact h_L47  _ 0 oM9 hf H locs ls hw (lv_sub hl [1, 0] rfl)
    · have hf := if_f c3 hf
      refine lv_aload_n hx hb dX7_digest_14 rfl (lv_at hl 0 rfl) ?_
      obtain ⟨oM15, g16, hf⟩ := bn1_e hf
      have fr := fr_X7_X7_oM o cA ((sL oM 43 1559)) oM15
      refine go_v (run_v (As := []) (rest := []) ⟨hx, hb, hml, hown, hts⟩ (k_X7_mixSheet l D cA o ((sL oM 43 1559)) oM15 g16 H.size) (cwV 0 hts gX7_digest_X7_mixSheet rfl rfl rfl hd_X7_mixSheet ⟨Nat.le_of_ble_eq_true rfl, Nat.le_of_ble_eq_true rfl⟩) fr hw hK hA hZo hZ (ci := 7) rfl rfl rfl rfl hl.1 rfl (Nat.le_of_ble_eq_true rfl) dX7_digest_15 ⟨Nat.zero_le _, Nat.zero_le _⟩) fr hw hA (fun H locs hw => ?_)
      refine lv_iconst (v := 0) hx hb dX7_digest_18 (by decide) ?_
      refine lv_istore_n (lv' := [(1, .int 0), (0, .ref (o 0))]) hx hb dX7_digest_19 rfl hl (by decide) rfl (fun ls hl => ?_)
      refine h_L20  _ ?_ _ 0 oM15 hf H locs ls hw (lv_sub hl [1, 0] rfl)
      intro oM17 hf H locs ls hw hl
      refine lv_iconst (v := 0) hx hb dX7_digest_45 (by decide) ?_
      refine lv_istore_n (lv' := [(1, .int 0), (0, .ref (o 0))]) hx hb dX7_digest_46 rfl hl (by decide) rfl (fun ls hl => ?_)
      exact h_L47  _ 0 oM17 hf H locs ls hw (lv_sub hl [1, 0] rfl)
  rw [hH, hlc] at goal
  exact goal
