theorem sm7 {α β γ δ ε ζ η : Type} {a a' : α} {b b' : β} {c c' : γ} {d d' : δ} {e e' : ε} {f f' : ζ} {g g' : η} (h : some (a, b, c, d, e, f, g) = some (a', b', c', d', e', f', g')) : a = a' ∧ b = b' ∧ c = c' ∧ d = d' ∧ e = e' ∧ f = f' ∧ g = g' := by obtain ⟨h1, h2, h3, h4, h5, h6⟩ := sm6 h; injection h6 with h6 h7; exact ⟨h1, h2, h3, h4, h5, h6, h7⟩
abbrev rmX6_letter : Room := { frames := 1, cells := 0, slots := 0, locals := 21 }
theorem hd_X6_letter : yX6_letter.cls = RX6 ∧ yX6_letter.cls ≠ "java/lang/invoke/MethodHandle" ∧ yX6_letter.cls ≠ "java/lang/invoke/VarHandle" ∧ (parseMethodDescriptor yX6_letter.desc).map (fun d => d.parameters.length) = some 1 := by decide +kernel
set_option maxHeartbeats 4000000 in
set_option maxRecDepth 100000 in
theorem k_X6_letter (l : Launch) (D : va_G) (cA : ClassId) (tx ty : Nat) (o : Nat → Nat) (oX : St) (oP : St) (oD : St) (oR : St) (oT : St) (oB : St) (oC : St) (oG : St) (a1 : Int32) (r : Int32) (oP' : St) (hf : f_X6_letter oP a1 = some (r, oP')) : Mi l yX6_letter wsX6_letter rmX6_letter D cA (z_X tx ty) [.ref (o 0), .int a1] (wX6 o cA oX oP oD oR oT oB oC oG) r (wX6 o cA oX oP' oD oR oT oB oC oG) := by
  refine Mi.of (cc := cX6_letter) (maxL := 2) (ret := (some .int)) (plainFor_of_name (by decide)) rfl (Nat.le_of_ble_eq_true rfl) (Or.inl rfl) ?_
  intro p e s m below meth c A Q hx hb hml hown hts hK hA hZ hret ls hl hw
  replace hown : s.vm.findClass RX6 = some m.cls := hown
  have hl : lv_has ls 2 [(0, .ref (o 0)), (1, .int a1)] := hl
  have hZo := z_X_ok tx ty
  have hi2 : ∀ w ∈ wsX20, w ∈ wsX6_letter := fun w h => List.mem_cons_of_mem _ (List.mem_append_right _ h)
  have hi6 : ∀ w ∈ wsX60, w ∈ wsX6_letter := fun w h => List.mem_cons_of_mem _ (List.mem_append_left _ (List.mem_append_right _ h))
  have q0 := hts (.fieldLink RX6 10 "ArcRings" "page" "LArcRings$Page;") (by decide +kernel)
  have q1 := hts (.fieldLink RX6 57 "ArcRings$Page" "length" "I") (by decide +kernel)
  unfold f_X6_letter at hf
  obtain ⟨H, hH⟩ : ∃ H, H = s.heap := ⟨_, rfl⟩
  obtain ⟨locs, hlc⟩ : ∃ locs : List Loc, locs = [] := ⟨_, rfl⟩
  have hw : Wd D A s.heap H locs (wX6 o cA oX oP oD oR oT oB oC oG) := by rw [hH, hlc]; exact hw
  have goal : W p l e rmX6_letter s m ([.ref (o 0), .int a1] : List Value).toArray below meth c H locs 0 0 Q (F0 m 0 ls []) := by
    clear hH hlc
    refine lv_iload_n hx hb dX6_letter_0 rfl (lv_at hl 1 rfl) ?_
    refine lv_bipush (v := 32) hx hb dX6_letter_1 (by decide) ?_
    refine lv_icmp_lt (tgt := 12) hx hb dX6_letter_3 (by decide) (fun c1 => ?_) (fun c1 => ?_)
    · have hf := if_t c1 hf
      refine lv_bipush (v := (-102)) hx hb dX6_letter_12 (by decide) ?_
      obtain ⟨e0_, e1_⟩ := sm2 hf
      exact hret _ _ _ _ _ (by rw [← e1_]; exact hw) e0_ (Or.inl rfl) dX6_letter_14
    · have hf := if_f c1 hf
      refine lv_iload_n hx hb dX6_letter_6 rfl (lv_at hl 1 rfl) ?_
      refine lv_bipush (v := 126) hx hb dX6_letter_7 (by decide) ?_
      refine lv_icmp_le (tgt := 15) hx hb dX6_letter_9 (by decide) (fun c2 => ?_) (fun c2 => ?_)
      · have hf := if_t c2 hf
        refine lv_aload_n hx hb dX6_letter_15 rfl (lv_at hl 0 rfl) ?_
        refine w_get hx hb hts hi6 hown hK hw 0 rfl rfl 0 (by decide) q0 rfl (v := .ref (o 1)) rfl dX6_letter_16 ?_
        refine w_get hx hb hts hi2 hown hK hw 1 rfl rfl 1 (by decide) q1 rfl (v := .int (oP.1 1)) rfl dX6_letter_19 ?_
        refine lv_bipush (v := 50) hx hb dX6_letter_22 (by decide) ?_
        refine lv_icmp_lt (tgt := 30) hx hb dX6_letter_24 (by decide) (fun c3 => ?_) (fun c3 => ?_)
        · have hf := if_t c3 hf
          refine lv_aload_n hx hb dX6_letter_30 rfl (lv_at hl 0 rfl) ?_
          refine w_get hx hb hts hi6 hown hK hw 0 rfl rfl 0 (by decide) q0 rfl (v := .ref (o 1)) rfl dX6_letter_31 ?_
          refine lv_iload_n hx hb dX6_letter_34 rfl (lv_at hl 1 rfl) ?_
          obtain ⟨oP4, g5, hf⟩ := bn1_e hf
          have fr := fr_X6_X2_oP_oD o cA oX oP oD oR oT oB oC oG oP4 oD
          refine go_v (run_v (As := [.int a1]) (rest := []) ⟨hx, hb, hml, hown, hts⟩ (k_X2_put l D cA tx ty o oP oD a1 oP4 g5 H.size) (cwV 1 hts gX6_letter_X2_put rfl rfl rfl hd_X2_put ⟨Nat.le_of_ble_eq_true rfl, Nat.le_of_ble_eq_true rfl⟩) fr hw hK hA hZo hZ (ci := 2) rfl rfl rfl rfl hl.1 rfl (Nat.le_of_ble_eq_true rfl) dX6_letter_35 ⟨Nat.zero_le _, Nat.zero_le _⟩) fr hw hA (fun H locs hw => ?_)
          refine lv_aload_n hx hb dX6_letter_38 rfl (lv_at hl 0 rfl) ?_
          refine w_get hx hb hts hi6 hown hK hw 0 rfl rfl 0 (by decide) q0 rfl (v := .ref (o 1)) rfl dX6_letter_39 ?_
          refine w_get hx hb hts hi2 hown hK hw 1 rfl rfl 1 (by decide) q1 rfl (v := .int (oP4.1 1)) rfl dX6_letter_42 ?_
          obtain ⟨e0_, e1_⟩ := sm2 hf
          exact hret _ _ _ _ _ (by rw [← e1_]; exact hw) e0_ (Or.inl rfl) dX6_letter_45
        · have hf := if_f c3 hf
          refine lv_bipush (v := (-104)) hx hb dX6_letter_27 (by decide) ?_
          obtain ⟨e0_, e1_⟩ := sm2 hf
          exact hret _ _ _ _ _ (by rw [← e1_]; exact hw) e0_ (Or.inl rfl) dX6_letter_29
      · have hf := if_f c2 hf
        refine lv_bipush (v := (-102)) hx hb dX6_letter_12 (by decide) ?_
        obtain ⟨e0_, e1_⟩ := sm2 hf
        exact hret _ _ _ _ _ (by rw [← e1_]; exact hw) e0_ (Or.inl rfl) dX6_letter_14
  rw [hH, hlc] at goal
  exact goal
abbrev rmX6_blank : Room := { frames := 0, cells := 0, slots := 0, locals := 0 }
theorem hd_X6_blank : yX6_blank.cls = RX6 ∧ yX6_blank.cls ≠ "java/lang/invoke/MethodHandle" ∧ yX6_blank.cls ≠ "java/lang/invoke/VarHandle" ∧ (parseMethodDescriptor yX6_blank.desc).map (fun d => d.parameters.length) = some 0 := by decide +kernel
set_option maxHeartbeats 4000000 in
set_option maxRecDepth 100000 in
theorem k_X6_blank (l : Launch) (D : va_G) (cA : ClassId) (tx ty : Nat) (o : Nat → Nat) (oX : St) (oP : St) (oD : St) (oR : St) (oT : St) (oB : St) (oC : St) (oG : St) (r : Int32) (oP' : St) (hf : f_X6_blank oP = some (r, oP')) : Mi l yX6_blank wsX6_blank rmX6_blank D cA (z_X tx ty) [.ref (o 0)] (wX6 o cA oX oP oD oR oT oB oC oG) r (wX6 o cA oX oP' oD oR oT oB oC oG) := by
  refine Mi.of (cc := cX6_blank) (maxL := 2) (ret := (some .int)) (plainFor_of_name (by decide)) rfl (Nat.le_of_ble_eq_true rfl) (Or.inl rfl) ?_
  intro p e s m below meth c A Q hx hb hml hown hts hK hA hZ hret ls hl hw
  replace hown : s.vm.findClass RX6 = some m.cls := hown
  have hl : lv_has ls 2 [(0, .ref (o 0))] := hl
  have hZo := z_X_ok tx ty
  have hi2 : ∀ w ∈ wsX20, w ∈ wsX6_blank := fun w h => List.mem_cons_of_mem _ (List.mem_append_right _ h)
  have hi6 : ∀ w ∈ wsX60, w ∈ wsX6_blank := fun w h => List.mem_cons_of_mem _ (List.mem_append_left _ (List.mem_append_right _ h))
  have q0 := hts (.fieldLink RX6 10 "ArcRings" "page" "LArcRings$Page;") (by decide +kernel)
  have q1 := hts (.fieldLink RX6 57 "ArcRings$Page" "length" "I") (by decide +kernel)
  unfold f_X6_blank at hf
  obtain ⟨H, hH⟩ : ∃ H, H = s.heap := ⟨_, rfl⟩
  obtain ⟨locs, hlc⟩ : ∃ locs : List Loc, locs = [] := ⟨_, rfl⟩
  have hw : Wd D A s.heap H locs (wX6 o cA oX oP oD oR oT oB oC oG) := by rw [hH, hlc]; exact hw
  have goal : W p l e rmX6_blank s m ([.ref (o 0)] : List Value).toArray below meth c H locs 0 0 Q (F0 m 0 ls []) := by
    clear hH hlc
    refine lv_aload_n hx hb dX6_blank_0 rfl (lv_at hl 0 rfl) ?_
    refine w_get hx hb hts hi6 hown hK hw 0 rfl rfl 0 (by decide) q0 rfl (v := .ref (o 1)) rfl dX6_blank_1 ?_
    refine w_get hx hb hts hi2 hown hK hw 1 rfl rfl 1 (by decide) q1 rfl (v := .int (oP.1 1)) rfl dX6_blank_4 ?_
    refine lv_istore_n (lv' := [(1, .int (oP.1 1)), (0, .ref (o 0))]) hx hb dX6_blank_7 rfl hl (by decide) rfl (fun ls hl => ?_)
    refine lv_aload_n hx hb dX6_blank_8 rfl (lv_at hl 1 rfl) ?_
    refine w_get hx hb hts hi6 hown hK hw 0 rfl rfl 0 (by decide) q0 rfl (v := .ref (o 1)) rfl dX6_blank_9 ?_
    refine lv_iconst (v := 0) hx hb dX6_blank_12 (by decide) ?_
    refine w_put (ws' := (wX6 o cA oX ((sI oP 1 0)) oD oR oT oB oC oG)) hx hb hts hi2 tyX2 tyX2_ok nmX2 hown hK hw 1 rfl rfl 1 (by decide) q1 rfl rfl rfl rfl (Nat.le_of_ble_eq_true rfl) rfl dX6_blank_13 (fun H locs hw => ?_)
    refine lv_iload_n hx hb dX6_blank_16 rfl (lv_at hl 0 rfl) ?_
    obtain ⟨e0_, e1_⟩ := sm2 hf
    exact hret _ _ _ _ _ (by rw [← e1_]; exact hw) e0_ (Or.inl rfl) dX6_blank_17
  rw [hH, hlc] at goal
  exact goal
abbrev rmX6_fault : Room := { frames := 5, cells := 0, slots := 0, locals := 109 }
theorem hd_X6_fault : yX6_fault.cls = RX6 ∧ yX6_fault.cls ≠ "java/lang/invoke/MethodHandle" ∧ yX6_fault.cls ≠ "java/lang/invoke/VarHandle" ∧ (parseMethodDescriptor yX6_fault.desc).map (fun d => d.parameters.length) = some 0 := by decide +kernel
set_option maxHeartbeats 4000000 in
set_option maxRecDepth 100000 in
theorem k_X6_fault (l : Launch) (D : va_G) (cA : ClassId) (tx ty : Nat) (o : Nat → Nat) (oX : St) (oP : St) (oD : St) (oR : St) (oT : St) (oB : St) (oC : St) (oG : St) (r : Int32) (oP' : St) (oD' : St) (hf : f_X6_fault oP oD = some (r, oP', oD')) : Mi l yX6_fault wsX6_fault rmX6_fault D cA (z_X tx ty) [.ref (o 0)] (wX6 o cA oX oP oD oR oT oB oC oG) r (wX6 o cA oX oP' oD' oR oT oB oC oG) := by
  refine Mi.of (cc := cX6_fault) (maxL := 1) (ret := (some .int)) (plainFor_of_name (by decide)) rfl (Nat.le_of_ble_eq_true rfl) (Or.inl rfl) ?_
  intro p e s m below meth c A Q hx hb hml hown hts hK hA hZ hret ls hl hw
  replace hown : s.vm.findClass RX6 = some m.cls := hown
  have hl : lv_has ls 1 [(0, .ref (o 0))] := hl
  have hZo := z_X_ok tx ty
  have hi6 : ∀ w ∈ wsX60, w ∈ wsX6_fault := fun w h => List.mem_cons_of_mem _ (List.mem_append_left _ (List.mem_append_left _ (List.mem_append_right _ h)))
  have q0 := hts (.fieldLink RX6 10 "ArcRings" "page" "LArcRings$Page;") (by decide +kernel)
  unfold f_X6_fault at hf
  obtain ⟨H, hH⟩ : ∃ H, H = s.heap := ⟨_, rfl⟩
  obtain ⟨locs, hlc⟩ : ∃ locs : List Loc, locs = [] := ⟨_, rfl⟩
  have hw : Wd D A s.heap H locs (wX6 o cA oX oP oD oR oT oB oC oG) := by rw [hH, hlc]; exact hw
  have goal : W p l e rmX6_fault s m ([.ref (o 0)] : List Value).toArray below meth c H locs 0 0 Q (F0 m 0 ls []) := by
    clear hH hlc
    refine lv_aload_n hx hb dX6_fault_0 rfl (lv_at hl 0 rfl) ?_
    refine w_get hx hb hts hi6 hown hK hw 0 rfl rfl 0 (by decide) q0 rfl (v := .ref (o 1)) rfl dX6_fault_1 ?_
    obtain ⟨x1, oP2, oD3, g4, hf⟩ := bn3_e hf
    have fr := fr_X6_X2_oP_oD o cA oX oP oD oR oT oB oC oG oP2 oD3
    refine go_i (run_v (As := []) (rest := []) ⟨hx, hb, hml, hown, hts⟩ (k_X2_read l D cA tx ty o oP oD x1 oP2 oD3 g4 H.size) (cwV 0 hts gX6_fault_X2_read rfl rfl rfl hd_X2_read ⟨Nat.le_of_ble_eq_true rfl, Nat.le_of_ble_eq_true rfl⟩) fr hw hK hA hZo hZ (ci := 2) rfl rfl rfl rfl hl.1 rfl (Nat.le_of_ble_eq_true rfl) dX6_fault_4 ⟨Nat.zero_le _, Nat.zero_le _⟩) fr hw hA (fun H locs hw => ?_)
    obtain ⟨e0_, e1_, e2_⟩ := sm3 hf
    exact hret _ _ _ _ _ (by rw [← e1_, ← e2_]; exact hw) e0_ (Or.inl rfl) dX6_fault_7
  rw [hH, hlc] at goal
  exact goal
abbrev rmX6_forget : Room := { frames := 1, cells := 0, slots := 0, locals := 20 }
theorem hd_X6_forget : yX6_forget.cls = RX6 ∧ yX6_forget.cls ≠ "java/lang/invoke/MethodHandle" ∧ yX6_forget.cls ≠ "java/lang/invoke/VarHandle" ∧ (parseMethodDescriptor yX6_forget.desc).map (fun d => d.parameters.length) = some 0 := by decide +kernel
set_option maxHeartbeats 4000000 in
set_option maxRecDepth 100000 in
theorem k_X6_forget (l : Launch) (D : va_G) (cA : ClassId) (tx ty : Nat) (o : Nat → Nat) (oX : St) (oP : St) (oD : St) (oR : St) (oT : St) (oB : St) (oC : St) (oG : St) (oR' : St) (oT' : St) (hf : f_X6_forget oR oT = some (oR', oT')) : Mv l yX6_forget wsX6_forget rmX6_forget D cA (z_X tx ty) [.ref (o 0)] (wX6 o cA oX oP oD oR oT oB oC oG) (wX6 o cA oX oP oD oR' oT' oB oC oG) := by
  refine Mv.of (cc := cX6_forget) (maxL := 1) (by decide) rfl (Nat.le_of_ble_eq_true rfl) ?_
  intro p e s m below meth c A Q hx hb hml hown hts hK hA hZ hret ls hl hw
  replace hown : s.vm.findClass RX6 = some m.cls := hown
  have hl : lv_has ls 1 [(0, .ref (o 0))] := hl
  have hZo := z_X_ok tx ty
  have hi5 : ∀ w ∈ wsX50, w ∈ wsX6_forget := fun w h => List.mem_cons_of_mem _ (List.mem_append_left _ (List.mem_append_right _ h))
  have hi6 : ∀ w ∈ wsX60, w ∈ wsX6_forget := fun w h => List.mem_cons_of_mem _ (List.mem_append_left _ (List.mem_append_left _ (List.mem_append_right _ h)))
  have q0 := hts (.fieldLink RX6 44 "ArcRings" "table" "LArcRings$Table;") (by decide +kernel)
  have q1 := hts (.fieldLink RX6 268 "ArcRings$Table" "fresh" "Z") (by decide +kernel)
  have q2 := hts (.fieldLink RX6 53 "ArcRings" "kept" "LArcRings$Rings;") (by decide +kernel)
  unfold f_X6_forget at hf
  obtain ⟨H, hH⟩ : ∃ H, H = s.heap := ⟨_, rfl⟩
  obtain ⟨locs, hlc⟩ : ∃ locs : List Loc, locs = [] := ⟨_, rfl⟩
  have hw : Wd D A s.heap H locs (wX6 o cA oX oP oD oR oT oB oC oG) := by rw [hH, hlc]; exact hw
  have goal : W p l e rmX6_forget s m ([.ref (o 0)] : List Value).toArray below meth c H locs 0 0 Q (F0 m 0 ls []) := by
    clear hH hlc
    refine lv_aload_n hx hb dX6_forget_0 rfl (lv_at hl 0 rfl) ?_
    refine w_get hx hb hts hi6 hown hK hw 0 rfl rfl 4 (by decide) q0 rfl (v := .ref (o 13)) rfl dX6_forget_1 ?_
    refine lv_iconst (v := 0) hx hb dX6_forget_4 (by decide) ?_
    refine w_put (ws' := (wX6 o cA oX oP oD oR ((sI oT 3 0)) oB oC oG)) hx hb hts hi5 tyX5 tyX5_ok nmX5 hown hK hw 10 rfl rfl 3 (by decide) q1 rfl rfl (by decide) (by decide) (Nat.le_of_ble_eq_true rfl) rfl dX6_forget_5 (fun H locs hw => ?_)
    refine lv_aload_n hx hb dX6_forget_8 rfl (lv_at hl 0 rfl) ?_
    refine w_get hx hb hts hi6 hown hK hw 0 rfl rfl 5 (by decide) q2 rfl (v := .ref (o 17)) rfl dX6_forget_9 ?_
    obtain ⟨oR1, g2, hf⟩ := bn1_e hf
    have fr := fr_X6_X3_oR_oT_oB_oC_oG o cA oX oP oD oR ((sI oT 3 0)) oB oC oG oR1 ((sI oT 3 0)) oB oC oG
    refine go_v (run_v (As := []) (rest := []) ⟨hx, hb, hml, hown, hts⟩ (k_X3_drop l D cA tx ty o oR ((sI oT 3 0)) oB oC oG oR1 g2 H.size) (cwV 0 hts gX6_forget_X3_drop rfl rfl rfl hd_X3_drop ⟨Nat.le_of_ble_eq_true rfl, Nat.le_of_ble_eq_true rfl⟩) fr hw hK hA hZo hZ (ci := 3) rfl rfl rfl rfl hl.1 rfl (Nat.le_of_ble_eq_true rfl) dX6_forget_12 ⟨Nat.zero_le _, Nat.zero_le _⟩) fr hw hA (fun H locs hw => ?_)
    obtain ⟨e0_, e1_⟩ := sm2 hf
    exact hret _ _ _ _ (by rw [← e0_, ← e1_]; exact hw) dX6_forget_15
  rw [hH, hlc] at goal
  exact goal
abbrev rmX6_sheet : Room := { frames := 6, cells := 0, slots := 0, locals := 129 }
theorem hd_X6_sheet : yX6_sheet.cls = RX6 ∧ yX6_sheet.cls ≠ "java/lang/invoke/MethodHandle" ∧ yX6_sheet.cls ≠ "java/lang/invoke/VarHandle" ∧ (parseMethodDescriptor yX6_sheet.desc).map (fun d => d.parameters.length) = some 0 := by decide +kernel
set_option maxHeartbeats 4000000 in
set_option maxRecDepth 100000 in
theorem k_X6_sheet (l : Launch) (D : va_G) (cA : ClassId) (tx ty : Nat) (o : Nat → Nat) (oX : St) (oP : St) (oD : St) (oR : St) (oT : St) (oB : St) (oC : St) (oG : St) (r : Int32) (oX' : St) (oP' : St) (oD' : St) (oR' : St) (oT' : St) (oB' : St) (hf : f_X6_sheet oX oP oD oR oT oB = some (r, oX', oP', oD', oR', oT', oB')) : Mi l yX6_sheet wsX6_sheet rmX6_sheet D cA (z_X tx ty) [.ref (o 0)] (wX6 o cA oX oP oD oR oT oB oC oG) r (wX6 o cA oX' oP' oD' oR' oT' oB' oC oG) := by
  refine Mi.of (cc := cX6_sheet) (maxL := 1) (ret := (some .int)) (plainFor_of_name (by decide)) rfl (Nat.le_of_ble_eq_true rfl) (Or.inl rfl) ?_
  intro p e s m below meth c A Q hx hb hml hown hts hK hA hZ hret ls hl hw
  replace hown : s.vm.findClass RX6 = some m.cls := hown
  have hl : lv_has ls 1 [(0, .ref (o 0))] := hl
  have hZo := z_X_ok tx ty
  have hi0 : ∀ w ∈ wsX00, w ∈ wsX6_sheet := fun w h => List.mem_cons_of_mem _ (List.mem_append_left _ (List.mem_append_left _ (List.mem_append_right _ h)))
  have hi2 : ∀ w ∈ wsX20, w ∈ wsX6_sheet := fun w h => List.mem_cons_of_mem _ (List.mem_append_left _ (List.mem_append_left _ (List.mem_append_left _ (List.mem_append_right _ h))))
  have hi6 : ∀ w ∈ wsX60, w ∈ wsX6_sheet := fun w h => List.mem_cons_of_mem _ (List.mem_append_left _ (List.mem_append_left _ (List.mem_append_left _ (List.mem_append_left _ (List.mem_append_right _ h)))))
  have q0 := hts (.fieldLink RX6 10 "ArcRings" "page" "LArcRings$Page;") (by decide +kernel)
  have q1 := hts (.fieldLink RX6 19 "ArcRings" "board" "LArcRings$Board;") (by decide +kernel)
  have q2 := hts (.fieldLink RX6 73 "ArcRings$Page" "draft" "LArcRings$Board;") (by decide +kernel)
  have q3 := hts (.fieldLink RX6 57 "ArcRings$Page" "length" "I") (by decide +kernel)
  have q4 := hts (.fieldLink RX6 79 "ArcRings" "sheetsRead" "I") (by decide +kernel)
  have q5 := hts (.fieldLink RX6 85 "ArcRings$Board" "dots" "I") (by decide +kernel)
  unfold f_X6_sheet at hf
  obtain ⟨H, hH⟩ : ∃ H, H = s.heap := ⟨_, rfl⟩
  obtain ⟨locs, hlc⟩ : ∃ locs : List Loc, locs = [] := ⟨_, rfl⟩
  have hw : Wd D A s.heap H locs (wX6 o cA oX oP oD oR oT oB oC oG) := by rw [hH, hlc]; exact hw
  have goal : W p l e rmX6_sheet s m ([.ref (o 0)] : List Value).toArray below meth c H locs 0 0 Q (F0 m 0 ls []) := by
    clear hH hlc
    refine lv_aload_n hx hb dX6_sheet_0 rfl (lv_at hl 0 rfl) ?_
    refine w_get hx hb hts hi6 hown hK hw 0 rfl rfl 0 (by decide) q0 rfl (v := .ref (o 1)) rfl dX6_sheet_1 ?_
    obtain ⟨x1, oP2, oD3, g4, hf⟩ := bn3_e hf
    have fr := fr_X6_X2_oP_oD o cA oX oP oD oR oT oB oC oG oP2 oD3
    refine go_i (run_v (As := []) (rest := []) ⟨hx, hb, hml, hown, hts⟩ (k_X2_isSheet l D cA tx ty o oP oD x1 oP2 oD3 g4 H.size) (cwV 0 hts gX6_sheet_X2_isSheet rfl rfl rfl hd_X2_isSheet ⟨Nat.le_of_ble_eq_true rfl, Nat.le_of_ble_eq_true rfl⟩) fr hw hK hA hZo hZ (ci := 2) rfl rfl rfl rfl hl.1 rfl (Nat.le_of_ble_eq_true rfl) dX6_sheet_4 ⟨Nat.zero_le _, Nat.zero_le _⟩) fr hw hA (fun H locs hw => ?_)
    refine lv_if_ne (tgt := 13) hx hb dX6_sheet_7 (by decide) (fun c5 => ?_) (fun c5 => ?_)
    · have hf := if_f c5 hf
      refine lv_aload_n hx hb dX6_sheet_13 rfl (lv_at hl 0 rfl) ?_
      refine w_get hx hb hts hi6 hown hK hw 0 rfl rfl 1 (by decide) q1 rfl (v := .ref (o 7)) rfl dX6_sheet_14 ?_
      refine lv_aload_n hx hb dX6_sheet_17 rfl (lv_at hl 0 rfl) ?_
      refine w_get hx hb hts hi6 hown hK hw 0 rfl rfl 0 (by decide) q0 rfl (v := .ref (o 1)) rfl dX6_sheet_18 ?_
      refine w_get hx hb hts hi2 hown hK hw 1 rfl rfl 2 (by decide) q2 rfl (v := .ref (o 3)) rfl dX6_sheet_21 ?_
      obtain ⟨oB6, g7, hf⟩ := bn1_e hf
      have fr := fr_X6_X0_oB_oD o cA oX oP2 oD3 oR oT oB oC oG oB6 oD3
      refine go_v (run_v (As := [.ref (o 3)]) (rest := []) ⟨hx, hb, hml, hown, hts⟩ (k_X0_become l D cA tx ty o 7 3 oB oD3 oB6 g7 H.size) (cwV 1 hts gX6_sheet_X0_become rfl rfl rfl hd_X0_become ⟨Nat.le_of_ble_eq_true rfl, Nat.le_of_ble_eq_true rfl⟩) fr hw hK hA hZo hZ (ci := 0) rfl rfl rfl rfl hl.1 rfl (Nat.le_of_ble_eq_true rfl) dX6_sheet_24 ⟨Nat.zero_le _, Nat.zero_le _⟩) fr hw hA (fun H locs hw => ?_)
      refine lv_aload_n hx hb dX6_sheet_27 rfl (lv_at hl 0 rfl) ?_
      refine w_get hx hb hts hi6 hown hK hw 0 rfl rfl 0 (by decide) q0 rfl (v := .ref (o 1)) rfl dX6_sheet_28 ?_
      refine lv_iconst (v := 0) hx hb dX6_sheet_31 (by decide) ?_
      refine w_put (ws' := (wX6 o cA oX ((sI oP2 1 0)) oD3 oR oT oB6 oC oG)) hx hb hts hi2 tyX2 tyX2_ok nmX2 hown hK hw 1 rfl rfl 1 (by decide) q3 rfl rfl rfl rfl (Nat.le_of_ble_eq_true rfl) rfl dX6_sheet_32 (fun H locs hw => ?_)
      refine lv_aload_n hx hb dX6_sheet_35 rfl (lv_at hl 0 rfl) ?_
      refine lv_dup hx hb dX6_sheet_36 rfl ?_
      refine w_get hx hb hts hi6 hown hK hw 0 rfl rfl 6 (by decide) q4 rfl (v := .int (oX.1 6)) rfl dX6_sheet_37 ?_
      refine lv_iconst (v := 1) hx hb dX6_sheet_40 (by decide) ?_
      refine lv_iadd hx hb dX6_sheet_41 ?_
      refine w_put (ws' := (wX6 o cA ((sI oX 6 ((oX.1 6) + 1))) ((sI oP2 1 0)) oD3 oR oT oB6 oC oG)) hx hb hts hi6 tyX6 tyX6_ok nmX6 hown hK hw 0 rfl rfl 6 (by decide) q4 rfl rfl rfl rfl (Nat.le_of_ble_eq_true rfl) rfl dX6_sheet_42 (fun H locs hw => ?_)
      refine lv_aload_n hx hb dX6_sheet_45 rfl (lv_at hl 0 rfl) ?_
      obtain ⟨oR8, oT9, g10, hf⟩ := bn2_e hf
      have fr := fr_X6_X6_oX_oP_oD_oR_oT_oB_oC_oG o cA ((sI oX 6 ((oX.1 6) + 1))) ((sI oP2 1 0)) oD3 oR oT oB6 oC oG ((sI oX 6 ((oX.1 6) + 1))) ((sI oP2 1 0)) oD3 oR8 oT9 oB6 oC oG
      refine go_v (run_v (As := []) (rest := []) ⟨hx, hb, hml, hown, hts⟩ (k_X6_forget l D cA tx ty o ((sI oX 6 ((oX.1 6) + 1))) ((sI oP2 1 0)) oD3 oR oT oB6 oC oG oR8 oT9 g10 H.size) (cwV 0 hts gX6_sheet_X6_forget rfl rfl rfl hd_X6_forget ⟨Nat.le_of_ble_eq_true rfl, Nat.le_of_ble_eq_true rfl⟩) fr hw hK hA hZo hZ (ci := 6) rfl rfl rfl rfl hl.1 rfl (Nat.le_of_ble_eq_true rfl) dX6_sheet_46 ⟨Nat.zero_le _, Nat.zero_le _⟩) fr hw hA (fun H locs hw => ?_)
      refine lv_aload_n hx hb dX6_sheet_49 rfl (lv_at hl 0 rfl) ?_
      refine w_get hx hb hts hi6 hown hK hw 0 rfl rfl 1 (by decide) q1 rfl (v := .ref (o 7)) rfl dX6_sheet_50 ?_
      refine w_get hx hb hts hi0 hown hK hw 14 rfl rfl 2 (by decide) q5 rfl (v := .int (oB6.1 2)) rfl dX6_sheet_53 ?_
      obtain ⟨e0_, e1_, e2_, e3_, e4_, e5_, e6_⟩ := sm7 hf
      exact hret _ _ _ _ _ (by rw [← e1_, ← e2_, ← e3_, ← e4_, ← e5_, ← e6_]; exact hw) e0_ (Or.inl rfl) dX6_sheet_56
    · have hf := if_t c5 hf
      refine lv_bipush (v := (-103)) hx hb dX6_sheet_10 (by decide) ?_
      obtain ⟨e0_, e1_, e2_, e3_, e4_, e5_, e6_⟩ := sm7 hf
      exact hret _ _ _ _ _ (by rw [← e1_, ← e2_, ← e3_, ← e4_, ← e5_, ← e6_]; exact hw) e0_ (Or.inl rfl) dX6_sheet_12
  rw [hH, hlc] at goal
  exact goal
abbrev rmX6_ink : Room := { frames := 3, cells := 0, slots := 0, locals := 66 }
theorem hd_X6_ink : yX6_ink.cls = RX6 ∧ yX6_ink.cls ≠ "java/lang/invoke/MethodHandle" ∧ yX6_ink.cls ≠ "java/lang/invoke/VarHandle" ∧ (parseMethodDescriptor yX6_ink.desc).map (fun d => d.parameters.length) = some 1 := by decide +kernel
set_option maxHeartbeats 4000000 in
set_option maxRecDepth 100000 in
theorem k_X6_ink (l : Launch) (D : va_G) (cA : ClassId) (tx ty : Nat) (o : Nat → Nat) (oX : St) (oP : St) (oD : St) (oR : St) (oT : St) (oB : St) (oC : St) (oG : St) (a1 : Int32) (r : Int32) (hf : f_X6_ink oB a1 = some (r)) : Mi l yX6_ink wsX6_ink rmX6_ink D cA (z_X tx ty) [.ref (o 0), .int a1] (wX6 o cA oX oP oD oR oT oB oC oG) r (wX6 o cA oX oP oD oR oT oB oC oG) := by
  refine Mi.of (cc := cX6_ink) (maxL := 2) (ret := (some .int)) (plainFor_of_name (by decide)) rfl (Nat.le_of_ble_eq_true rfl) (Or.inl rfl) ?_
  intro p e s m below meth c A Q hx hb hml hown hts hK hA hZ hret ls hl hw
  replace hown : s.vm.findClass RX6 = some m.cls := hown
  have hl : lv_has ls 2 [(0, .ref (o 0)), (1, .int a1)] := hl
  have hZo := z_X_ok tx ty
  have hi6 : ∀ w ∈ wsX60, w ∈ wsX6_ink := fun w h => List.mem_cons_of_mem _ (List.mem_append_left _ (List.mem_append_right _ h))
  have q0 := hts (.fieldLink RX6 19 "ArcRings" "board" "LArcRings$Board;") (by decide +kernel)
  unfold f_X6_ink at hf
  obtain ⟨H, hH⟩ : ∃ H, H = s.heap := ⟨_, rfl⟩
  obtain ⟨locs, hlc⟩ : ∃ locs : List Loc, locs = [] := ⟨_, rfl⟩
  have hw : Wd D A s.heap H locs (wX6 o cA oX oP oD oR oT oB oC oG) := by rw [hH, hlc]; exact hw
  have goal : W p l e rmX6_ink s m ([.ref (o 0), .int a1] : List Value).toArray below meth c H locs 0 0 Q (F0 m 0 ls []) := by
    clear hH hlc
    refine lv_aload_n hx hb dX6_ink_0 rfl (lv_at hl 0 rfl) ?_
    refine w_get hx hb hts hi6 hown hK hw 0 rfl rfl 1 (by decide) q0 rfl (v := .ref (o 7)) rfl dX6_ink_1 ?_
    obtain ⟨x1, g2, hf⟩ := bn1_e hf
    have fr := fr_X6_X0_oB o cA oX oP oD oR oT oB oC oG oB
    refine go_i (run_v (As := []) (rest := []) ⟨hx, hb, hml, hown, hts⟩ (k_X0_isThere l D cA tx ty o 7 oB x1 g2 H.size) (cwV 0 hts gX6_ink_X0_isThere rfl rfl rfl hd_X0_isThere ⟨Nat.le_of_ble_eq_true rfl, Nat.le_of_ble_eq_true rfl⟩) fr hw hK hA hZo hZ (ci := 0) rfl rfl rfl rfl hl.1 rfl (Nat.le_of_ble_eq_true rfl) dX6_ink_4 ⟨Nat.zero_le _, Nat.zero_le _⟩) fr hw hA (fun H locs hw => ?_)
    refine lv_if_ne (tgt := 13) hx hb dX6_ink_7 (by decide) (fun c3 => ?_) (fun c3 => ?_)
    · have hf := if_f c3 hf
      refine lv_iload_n hx hb dX6_ink_13 rfl (lv_at hl 1 rfl) ?_
      refine lv_if_ge (tgt := 22) hx hb dX6_ink_14 (by decide) (fun c4 => ?_) (fun c4 => ?_)
      · have hf := if_t c4 hf
        refine lv_aload_n hx hb dX6_ink_22 rfl (lv_at hl 0 rfl) ?_
        refine w_get hx hb hts hi6 hown hK hw 0 rfl rfl 1 (by decide) q0 rfl (v := .ref (o 7)) rfl dX6_ink_23 ?_
        refine lv_iload_n hx hb dX6_ink_26 rfl (lv_at hl 1 rfl) ?_
        obtain ⟨x5, g6, hf⟩ := bn1_e hf
        have fr := fr_X6_X0_oB o cA oX oP oD oR oT oB oC oG oB
        refine go_i (run_v (As := [.int a1]) (rest := []) ⟨hx, hb, hml, hown, hts⟩ (k_X0_textAt l D cA tx ty o 7 oB a1 x5 g6 H.size) (cwV 1 hts gX6_ink_X0_textAt rfl rfl rfl hd_X0_textAt ⟨Nat.le_of_ble_eq_true rfl, Nat.le_of_ble_eq_true rfl⟩) fr hw hK hA hZo hZ (ci := 0) rfl rfl rfl rfl hl.1 rfl (Nat.le_of_ble_eq_true rfl) dX6_ink_27 ⟨Nat.zero_le _, Nat.zero_le _⟩) fr hw hA (fun H locs hw => ?_)
        have e0_ := sm1 hf
        exact hret _ _ _ _ _ hw e0_ (Or.inl rfl) dX6_ink_30
      · have hf := if_f c4 hf
        refine lv_bipush (v := (-101)) hx hb dX6_ink_17 (by decide) ?_
        refine lv_goto (tgt := 30) hx hb dX6_ink_19 (by decide) ?_
        have e0_ := sm1 hf
        exact hret _ _ _ _ _ hw e0_ (Or.inl rfl) dX6_ink_30
    · have hf := if_t c3 hf
      refine lv_bipush (v := (-103)) hx hb dX6_ink_10 (by decide) ?_
      have e0_ := sm1 hf
      exact hret _ _ _ _ _ hw e0_ (Or.inl rfl) dX6_ink_12
  rw [hH, hlc] at goal
  exact goal
abbrev rmX6_comes : Room := { frames := 2, cells := 0, slots := 0, locals := 46 }
theorem hd_X6_comes : yX6_comes.cls = RX6 ∧ yX6_comes.cls ≠ "java/lang/invoke/MethodHandle" ∧ yX6_comes.cls ≠ "java/lang/invoke/VarHandle" ∧ (parseMethodDescriptor yX6_comes.desc).map (fun d => d.parameters.length) = some 3 := by decide +kernel
set_option maxHeartbeats 4000000 in
set_option maxRecDepth 100000 in
theorem k_X6_comes (l : Launch) (D : va_G) (cA : ClassId) (tx ty : Nat) (o : Nat → Nat) (oX : St) (oP : St) (oD : St) (oR : St) (oT : St) (oB : St) (oC : St) (oG : St) (a1 : Int32) (a2 : Int32) (a3 : Int32) (r : Int32) (oR' : St) (oT' : St) (oB' : St) (hf : f_X6_comes oR oT oB a1 a2 a3 = some (r, oR', oT', oB')) : Mi l yX6_comes wsX6_comes rmX6_comes D cA (z_X tx ty) [.ref (o 0), .int a1, .int a2, .int a3] (wX6 o cA oX oP oD oR oT oB oC oG) r (wX6 o cA oX oP oD oR' oT' oB' oC oG) := by
  refine Mi.of (cc := cX6_comes) (maxL := 5) (ret := (some .boolean)) (plainFor_of_name (by decide)) rfl (Nat.le_of_ble_eq_true rfl) (Or.inr rfl) ?_
  intro p e s m below meth c A Q hx hb hml hown hts hK hA hZ hret ls hl hw
  replace hown : s.vm.findClass RX6 = some m.cls := hown
  have hl : lv_has ls 5 [(0, .ref (o 0)), (1, .int a1), (2, .int a2), (3, .int a3)] := hl
  have hZo := z_X_ok tx ty
  have hi6 : ∀ w ∈ wsX60, w ∈ wsX6_comes := fun w h => List.mem_cons_of_mem _ (List.mem_append_left _ (List.mem_append_left _ (List.mem_append_left _ (List.mem_append_right _ h))))
  have q0 := hts (.fieldLink RX6 19 "ArcRings" "board" "LArcRings$Board;") (by decide +kernel)
  unfold f_X6_comes at hf
  obtain ⟨H, hH⟩ : ∃ H, H = s.heap := ⟨_, rfl⟩
  obtain ⟨locs, hlc⟩ : ∃ locs : List Loc, locs = [] := ⟨_, rfl⟩
  have hw : Wd D A s.heap H locs (wX6 o cA oX oP oD oR oT oB oC oG) := by rw [hH, hlc]; exact hw
  have goal : W p l e rmX6_comes s m ([.ref (o 0), .int a1, .int a2, .int a3] : List Value).toArray below meth c H locs 0 0 Q (F0 m 0 ls []) := by
    clear hH hlc
    refine lv_aload_n hx hb dX6_comes_0 rfl (lv_at hl 0 rfl) ?_
    refine w_get hx hb hts hi6 hown hK hw 0 rfl rfl 1 (by decide) q0 rfl (v := .ref (o 7)) rfl dX6_comes_1 ?_
    refine lv_iload_n hx hb dX6_comes_4 rfl (lv_at hl 1 rfl) ?_
    refine lv_iload_n hx hb dX6_comes_5 rfl (lv_at hl 2 rfl) ?_
    refine lv_iload_n hx hb dX6_comes_6 rfl (lv_at hl 3 rfl) ?_
    obtain ⟨x1, oB2, g3, hf⟩ := bn2_e hf
    have fr := fr_X6_X0_oB o cA oX oP oD oR oT oB oC oG oB2
    refine go_i (run_v (As := [.int a1, .int a2, .int a3]) (rest := []) ⟨hx, hb, hml, hown, hts⟩ (k_X0_add l D cA tx ty o 7 oB a1 a2 a3 x1 oB2 g3 H.size) (cwV 3 hts gX6_comes_X0_add rfl rfl rfl hd_X0_add ⟨Nat.le_of_ble_eq_true rfl, Nat.le_of_ble_eq_true rfl⟩) fr hw hK hA hZo hZ (ci := 0) rfl rfl rfl rfl hl.1 rfl (Nat.le_of_ble_eq_true rfl) dX6_comes_7 ⟨Nat.zero_le _, Nat.zero_le _⟩) fr hw hA (fun H locs hw => ?_)
    refine lv_istore (lv' := [(4, .int x1), (0, .ref (o 0)), (1, .int a1), (2, .int a2), (3, .int a3)]) hx hb dX6_comes_10 hl (by decide) rfl (fun ls hl => ?_)
    refine lv_iload hx hb dX6_comes_12 (lv_at hl 0 rfl) ?_
    refine lv_if_eq (tgt := 21) hx hb dX6_comes_14 (by decide) (fun c4 => ?_) (fun c4 => ?_)
    · have hf := if_t c4 hf
      refine lv_iload hx hb dX6_comes_21 (lv_at hl 0 rfl) ?_
      obtain ⟨bz, hf⟩ := if_n hf
      obtain ⟨e0_, e1_, e2_, e3_⟩ := sm4 hf
      exact hret _ _ _ _ _ (by rw [← e1_, ← e2_, ← e3_]; exact hw) e0_ (Or.inr bz) dX6_comes_23
    · have hf := if_f c4 hf
      refine lv_aload_n hx hb dX6_comes_17 rfl (lv_at hl 1 rfl) ?_
      obtain ⟨oR5, oT6, g7, hf⟩ := bn2_e hf
      have fr := fr_X6_X6_oX_oP_oD_oR_oT_oB_oC_oG o cA oX oP oD oR oT oB2 oC oG oX oP oD oR5 oT6 oB2 oC oG
      refine go_v (run_v (As := []) (rest := []) ⟨hx, hb, hml, hown, hts⟩ (k_X6_forget l D cA tx ty o oX oP oD oR oT oB2 oC oG oR5 oT6 g7 H.size) (cwV 0 hts gX6_comes_X6_forget rfl rfl rfl hd_X6_forget ⟨Nat.le_of_ble_eq_true rfl, Nat.le_of_ble_eq_true rfl⟩) fr hw hK hA hZo hZ (ci := 6) rfl rfl rfl rfl hl.1 rfl (Nat.le_of_ble_eq_true rfl) dX6_comes_18 ⟨Nat.zero_le _, Nat.zero_le _⟩) fr hw hA (fun H locs hw => ?_)
      refine lv_iload hx hb dX6_comes_21 (lv_at hl 0 rfl) ?_
      obtain ⟨bz, hf⟩ := if_n hf
      obtain ⟨e0_, e1_, e2_, e3_⟩ := sm4 hf
      exact hret _ _ _ _ _ (by rw [← e1_, ← e2_, ← e3_]; exact hw) e0_ (Or.inr bz) dX6_comes_23
  rw [hH, hlc] at goal
  exact goal
abbrev rmX6_dot : Room := { frames := 3, cells := 0, slots := 0, locals := 70 }
theorem hd_X6_dot : yX6_dot.cls = RX6 ∧ yX6_dot.cls ≠ "java/lang/invoke/MethodHandle" ∧ yX6_dot.cls ≠ "java/lang/invoke/VarHandle" ∧ (parseMethodDescriptor yX6_dot.desc).map (fun d => d.parameters.length) = some 3 := by decide +kernel
set_option maxHeartbeats 4000000 in
set_option maxRecDepth 100000 in
theorem k_X6_dot (l : Launch) (D : va_G) (cA : ClassId) (tx ty : Nat) (o : Nat → Nat) (oX : St) (oP : St) (oD : St) (oR : St) (oT : St) (oB : St) (oC : St) (oG : St) (a1 : Int32) (a2 : Int32) (a3 : Int32) (r : Int32) (oR' : St) (oT' : St) (oB' : St) (hf : f_X6_dot oR oT oB a1 a2 a3 = some (r, oR', oT', oB')) : Mi l yX6_dot wsX6_dot rmX6_dot D cA (z_X tx ty) [.ref (o 0), .int a1, .int a2, .int a3] (wX6 o cA oX oP oD oR oT oB oC oG) r (wX6 o cA oX oP oD oR' oT' oB' oC oG) := by
  refine Mi.of (cc := cX6_dot) (maxL := 4) (ret := (some .int)) (plainFor_of_name (by decide)) rfl (Nat.le_of_ble_eq_true rfl) (Or.inl rfl) ?_
  intro p e s m below meth c A Q hx hb hml hown hts hK hA hZ hret ls hl hw
  replace hown : s.vm.findClass RX6 = some m.cls := hown
  have hl : lv_has ls 4 [(0, .ref (o 0)), (1, .int a1), (2, .int a2), (3, .int a3)] := hl
  have hZo := z_X_ok tx ty
  have hi0 : ∀ w ∈ wsX00, w ∈ wsX6_dot := fun w h => List.mem_cons_of_mem _ (List.mem_append_left _ (List.mem_append_left _ (List.mem_append_right _ h)))
  have hi6 : ∀ w ∈ wsX60, w ∈ wsX6_dot := fun w h => List.mem_cons_of_mem _ (List.mem_append_left _ (List.mem_append_left _ (List.mem_append_left _ (List.mem_append_right _ h))))
  have q0 := hts (.fieldLink RX6 19 "ArcRings" "board" "LArcRings$Board;") (by decide +kernel)
  have q1 := hts (.fieldLink RX6 85 "ArcRings$Board" "dots" "I") (by decide +kernel)
  unfold f_X6_dot at hf
  obtain ⟨H, hH⟩ : ∃ H, H = s.heap := ⟨_, rfl⟩
  obtain ⟨locs, hlc⟩ : ∃ locs : List Loc, locs = [] := ⟨_, rfl⟩
  have hw : Wd D A s.heap H locs (wX6 o cA oX oP oD oR oT oB oC oG) := by rw [hH, hlc]; exact hw
  have goal : W p l e rmX6_dot s m ([.ref (o 0), .int a1, .int a2, .int a3] : List Value).toArray below meth c H locs 0 0 Q (F0 m 0 ls []) := by
    clear hH hlc
    refine lv_aload_n hx hb dX6_dot_0 rfl (lv_at hl 0 rfl) ?_
    refine w_get hx hb hts hi6 hown hK hw 0 rfl rfl 1 (by decide) q0 rfl (v := .ref (o 7)) rfl dX6_dot_1 ?_
    obtain ⟨x1, g2, hf⟩ := bn1_e hf
    have fr := fr_X6_X0_oB o cA oX oP oD oR oT oB oC oG oB
    refine go_i (run_v (As := []) (rest := []) ⟨hx, hb, hml, hown, hts⟩ (k_X0_isThere l D cA tx ty o 7 oB x1 g2 H.size) (cwV 0 hts gX6_dot_X0_isThere rfl rfl rfl hd_X0_isThere ⟨Nat.le_of_ble_eq_true rfl, Nat.le_of_ble_eq_true rfl⟩) fr hw hK hA hZo hZ (ci := 0) rfl rfl rfl rfl hl.1 rfl (Nat.le_of_ble_eq_true rfl) dX6_dot_4 ⟨Nat.zero_le _, Nat.zero_le _⟩) fr hw hA (fun H locs hw => ?_)
    refine lv_if_ne (tgt := 13) hx hb dX6_dot_7 (by decide) (fun c3 => ?_) (fun c3 => ?_)
    · have hf := if_f c3 hf
      refine lv_aload_n hx hb dX6_dot_13 rfl (lv_at hl 0 rfl) ?_
      refine w_get hx hb hts hi6 hown hK hw 0 rfl rfl 1 (by decide) q0 rfl (v := .ref (o 7)) rfl dX6_dot_14 ?_
      refine lv_iload_n hx hb dX6_dot_17 rfl (lv_at hl 1 rfl) ?_
      refine lv_iload_n hx hb dX6_dot_18 rfl (lv_at hl 2 rfl) ?_
      obtain ⟨x4, g5, hf⟩ := bn1_e hf
      have fr := fr_X6_X0_oB o cA oX oP oD oR oT oB oC oG oB
      refine go_i (run_v (As := [.int a1, .int a2]) (rest := []) ⟨hx, hb, hml, hown, hts⟩ (k_X0_holds l D cA tx ty o 7 oB a1 a2 x4 g5 H.size) (cwV 2 hts gX6_dot_X0_holds rfl rfl rfl hd_X0_holds ⟨Nat.le_of_ble_eq_true rfl, Nat.le_of_ble_eq_true rfl⟩) fr hw hK hA hZo hZ (ci := 0) rfl rfl rfl rfl hl.1 rfl (Nat.le_of_ble_eq_true rfl) dX6_dot_19 ⟨Nat.zero_le _, Nat.zero_le _⟩) fr hw hA (fun H locs hw => ?_)
      refine lv_if_eq (tgt := 36) hx hb dX6_dot_22 (by decide) (fun c6 => ?_) (fun c6 => ?_)
      · have hf := if_t c6 hf
        refine lv_bipush (v := (-102)) hx hb dX6_dot_36 (by decide) ?_
        obtain ⟨e0_, e1_, e2_, e3_⟩ := sm4 hf
        exact hret _ _ _ _ _ (by rw [← e1_, ← e2_, ← e3_]; exact hw) e0_ (Or.inl rfl) dX6_dot_38
      · have hf := if_f c6 hf
        refine lv_iload_n hx hb dX6_dot_25 rfl (lv_at hl 3 rfl) ?_
        refine lv_iconst (v := (-1)) hx hb dX6_dot_26 (by decide) ?_
        refine lv_icmp_lt (tgt := 36) hx hb dX6_dot_27 (by decide) (fun c7 => ?_) (fun c7 => ?_)
        · have hf := if_t c7 hf
          refine lv_bipush (v := (-102)) hx hb dX6_dot_36 (by decide) ?_
          obtain ⟨e0_, e1_, e2_, e3_⟩ := sm4 hf
          exact hret _ _ _ _ _ (by rw [← e1_, ← e2_, ← e3_]; exact hw) e0_ (Or.inl rfl) dX6_dot_38
        · have hf := if_f c7 hf
          refine lv_iload_n hx hb dX6_dot_30 rfl (lv_at hl 3 rfl) ?_
          refine lv_bipush (v := 8) hx hb dX6_dot_31 (by decide) ?_
          refine lv_icmp_lt (tgt := 39) hx hb dX6_dot_33 (by decide) (fun c8 => ?_) (fun c8 => ?_)
          · have hf := if_t c8 hf
            refine lv_aload_n hx hb dX6_dot_39 rfl (lv_at hl 0 rfl) ?_
            refine w_get hx hb hts hi6 hown hK hw 0 rfl rfl 1 (by decide) q0 rfl (v := .ref (o 7)) rfl dX6_dot_40 ?_
            refine lv_iload_n hx hb dX6_dot_43 rfl (lv_at hl 1 rfl) ?_
            refine lv_iload_n hx hb dX6_dot_44 rfl (lv_at hl 2 rfl) ?_
            obtain ⟨x9, g10, hf⟩ := bn1_e hf
            have fr := fr_X6_X0_oB o cA oX oP oD oR oT oB oC oG oB
            refine go_i (run_v (As := [.int a1, .int a2]) (rest := []) ⟨hx, hb, hml, hown, hts⟩ (k_X0_isTaken l D cA tx ty o 7 oB a1 a2 x9 g10 H.size) (cwV 2 hts gX6_dot_X0_isTaken rfl rfl rfl hd_X0_isTaken ⟨Nat.le_of_ble_eq_true rfl, Nat.le_of_ble_eq_true rfl⟩) fr hw hK hA hZo hZ (ci := 0) rfl rfl rfl rfl hl.1 rfl (Nat.le_of_ble_eq_true rfl) dX6_dot_45 ⟨Nat.zero_le _, Nat.zero_le _⟩) fr hw hA (fun H locs hw => ?_)
            refine lv_if_eq (tgt := 54) hx hb dX6_dot_48 (by decide) (fun c11 => ?_) (fun c11 => ?_)
            · have hf := if_t c11 hf
              refine lv_aload_n hx hb dX6_dot_54 rfl (lv_at hl 0 rfl) ?_
              refine lv_iload_n hx hb dX6_dot_55 rfl (lv_at hl 1 rfl) ?_
              refine lv_iload_n hx hb dX6_dot_56 rfl (lv_at hl 2 rfl) ?_
              refine lv_iload_n hx hb dX6_dot_57 rfl (lv_at hl 3 rfl) ?_
              obtain ⟨x12, oR13, oT14, oB15, g16, hf⟩ := bn4_e hf
              have fr := fr_X6_X6_oX_oP_oD_oR_oT_oB_oC_oG o cA oX oP oD oR oT oB oC oG oX oP oD oR13 oT14 oB15 oC oG
              refine go_i (run_v (As := [.int a1, .int a2, .int a3]) (rest := []) ⟨hx, hb, hml, hown, hts⟩ (k_X6_comes l D cA tx ty o oX oP oD oR oT oB oC oG a1 a2 a3 x12 oR13 oT14 oB15 g16 H.size) (cwV 3 hts gX6_dot_X6_comes rfl rfl rfl hd_X6_comes ⟨Nat.le_of_ble_eq_true rfl, Nat.le_of_ble_eq_true rfl⟩) fr hw hK hA hZo hZ (ci := 6) rfl rfl rfl rfl hl.1 rfl (Nat.le_of_ble_eq_true rfl) dX6_dot_58 ⟨Nat.zero_le _, Nat.zero_le _⟩) fr hw hA (fun H locs hw => ?_)
              refine lv_if_eq (tgt := 76) hx hb dX6_dot_61 (by decide) (fun c17 => ?_) (fun c17 => ?_)
              · have hf := if_t c17 hf
                refine lv_bipush (v := (-104)) hx hb dX6_dot_76 (by decide) ?_
                obtain ⟨e0_, e1_, e2_, e3_⟩ := sm4 hf
                exact hret _ _ _ _ _ (by rw [← e1_, ← e2_, ← e3_]; exact hw) e0_ (Or.inl rfl) dX6_dot_78
              · have hf := if_f c17 hf
                refine lv_aload_n hx hb dX6_dot_64 rfl (lv_at hl 0 rfl) ?_
                refine w_get hx hb hts hi6 hown hK hw 0 rfl rfl 1 (by decide) q0 rfl (v := .ref (o 7)) rfl dX6_dot_65 ?_
                refine w_get hx hb hts hi0 hown hK hw 14 rfl rfl 2 (by decide) q1 rfl (v := .int (oB15.1 2)) rfl dX6_dot_68 ?_
                refine lv_iconst (v := 1) hx hb dX6_dot_71 (by decide) ?_
                refine lv_isub hx hb dX6_dot_72 ?_
                refine lv_goto (tgt := 78) hx hb dX6_dot_73 (by decide) ?_
                obtain ⟨e0_, e1_, e2_, e3_⟩ := sm4 hf
                exact hret _ _ _ _ _ (by rw [← e1_, ← e2_, ← e3_]; exact hw) e0_ (Or.inl rfl) dX6_dot_78
            · have hf := if_f c11 hf
              refine lv_bipush (v := (-103)) hx hb dX6_dot_51 (by decide) ?_
              obtain ⟨e0_, e1_, e2_, e3_⟩ := sm4 hf
              exact hret _ _ _ _ _ (by rw [← e1_, ← e2_, ← e3_]; exact hw) e0_ (Or.inl rfl) dX6_dot_53
          · have hf := if_f c8 hf
            refine lv_bipush (v := (-102)) hx hb dX6_dot_36 (by decide) ?_
            obtain ⟨e0_, e1_, e2_, e3_⟩ := sm4 hf
            exact hret _ _ _ _ _ (by rw [← e1_, ← e2_, ← e3_]; exact hw) e0_ (Or.inl rfl) dX6_dot_38
    · have hf := if_t c3 hf
      refine lv_bipush (v := (-103)) hx hb dX6_dot_10 (by decide) ?_
      obtain ⟨e0_, e1_, e2_, e3_⟩ := sm4 hf
      exact hret _ _ _ _ _ (by rw [← e1_, ← e2_, ← e3_]; exact hw) e0_ (Or.inl rfl) dX6_dot_12
  rw [hH, hlc] at goal
  exact goal
abbrev rmX6_lift : Room := { frames := 2, cells := 0, slots := 0, locals := 43 }
theorem hd_X6_lift : yX6_lift.cls = RX6 ∧ yX6_lift.cls ≠ "java/lang/invoke/MethodHandle" ∧ yX6_lift.cls ≠ "java/lang/invoke/VarHandle" ∧ (parseMethodDescriptor yX6_lift.desc).map (fun d => d.parameters.length) = some 1 := by decide +kernel
set_option maxHeartbeats 4000000 in
set_option maxRecDepth 100000 in
theorem k_X6_lift (l : Launch) (D : va_G) (cA : ClassId) (tx ty : Nat) (o : Nat → Nat) (oX : St) (oP : St) (oD : St) (oR : St) (oT : St) (oB : St) (oC : St) (oG : St) (a1 : Int32) (r : Int32) (oR' : St) (oT' : St) (oB' : St) (hf : f_X6_lift oR oT oB a1 = some (r, oR', oT', oB')) : Mi l yX6_lift wsX6_lift rmX6_lift D cA (z_X tx ty) [.ref (o 0), .int a1] (wX6 o cA oX oP oD oR oT oB oC oG) r (wX6 o cA oX oP oD oR' oT' oB' oC oG) := by
  refine Mi.of (cc := cX6_lift) (maxL := 2) (ret := (some .int)) (plainFor_of_name (by decide)) rfl (Nat.le_of_ble_eq_true rfl) (Or.inl rfl) ?_
  intro p e s m below meth c A Q hx hb hml hown hts hK hA hZ hret ls hl hw
  replace hown : s.vm.findClass RX6 = some m.cls := hown
  have hl : lv_has ls 2 [(0, .ref (o 0)), (1, .int a1)] := hl
  have hZo := z_X_ok tx ty
  have hi0 : ∀ w ∈ wsX00, w ∈ wsX6_lift := fun w h => List.mem_cons_of_mem _ (List.mem_append_left _ (List.mem_append_left _ (List.mem_append_right _ h)))
  have hi6 : ∀ w ∈ wsX60, w ∈ wsX6_lift := fun w h => List.mem_cons_of_mem _ (List.mem_append_left _ (List.mem_append_left _ (List.mem_append_left _ (List.mem_append_right _ h))))
  have q0 := hts (.fieldLink RX6 19 "ArcRings" "board" "LArcRings$Board;") (by decide +kernel)
  have q1 := hts (.fieldLink RX6 85 "ArcRings$Board" "dots" "I") (by decide +kernel)
  unfold f_X6_lift at hf
  obtain ⟨H, hH⟩ : ∃ H, H = s.heap := ⟨_, rfl⟩
  obtain ⟨locs, hlc⟩ : ∃ locs : List Loc, locs = [] := ⟨_, rfl⟩
  have hw : Wd D A s.heap H locs (wX6 o cA oX oP oD oR oT oB oC oG) := by rw [hH, hlc]; exact hw
  have goal : W p l e rmX6_lift s m ([.ref (o 0), .int a1] : List Value).toArray below meth c H locs 0 0 Q (F0 m 0 ls []) := by
    clear hH hlc
    refine lv_aload_n hx hb dX6_lift_0 rfl (lv_at hl 0 rfl) ?_
    refine w_get hx hb hts hi6 hown hK hw 0 rfl rfl 1 (by decide) q0 rfl (v := .ref (o 7)) rfl dX6_lift_1 ?_
    refine lv_iload_n hx hb dX6_lift_4 rfl (lv_at hl 1 rfl) ?_
    obtain ⟨x1, g2, hf⟩ := bn1_e hf
    have fr := fr_X6_X0_oB o cA oX oP oD oR oT oB oC oG oB
    refine go_i (run_v (As := [.int a1]) (rest := []) ⟨hx, hb, hml, hown, hts⟩ (k_X0_has l D cA tx ty o 7 oB a1 x1 g2 H.size) (cwV 1 hts gX6_lift_X0_has rfl rfl rfl hd_X0_has ⟨Nat.le_of_ble_eq_true rfl, Nat.le_of_ble_eq_true rfl⟩) fr hw hK hA hZo hZ (ci := 0) rfl rfl rfl rfl hl.1 rfl (Nat.le_of_ble_eq_true rfl) dX6_lift_5 ⟨Nat.zero_le _, Nat.zero_le _⟩) fr hw hA (fun H locs hw => ?_)
    refine lv_if_ne (tgt := 14) hx hb dX6_lift_8 (by decide) (fun c3 => ?_) (fun c3 => ?_)
    · have hf := if_f c3 hf
      refine lv_aload_n hx hb dX6_lift_14 rfl (lv_at hl 0 rfl) ?_
      refine w_get hx hb hts hi6 hown hK hw 0 rfl rfl 1 (by decide) q0 rfl (v := .ref (o 7)) rfl dX6_lift_15 ?_
      refine lv_iload_n hx hb dX6_lift_18 rfl (lv_at hl 1 rfl) ?_
      obtain ⟨oB4, g5, hf⟩ := bn1_e hf
      have fr := fr_X6_X0_oB o cA oX oP oD oR oT oB oC oG oB4
      refine go_v (run_v (As := [.int a1]) (rest := []) ⟨hx, hb, hml, hown, hts⟩ (k_X0_remove l D cA tx ty o 7 oB a1 oB4 g5 H.size) (cwV 1 hts gX6_lift_X0_remove rfl rfl rfl hd_X0_remove ⟨Nat.le_of_ble_eq_true rfl, Nat.le_of_ble_eq_true rfl⟩) fr hw hK hA hZo hZ (ci := 0) rfl rfl rfl rfl hl.1 rfl (Nat.le_of_ble_eq_true rfl) dX6_lift_19 ⟨Nat.zero_le _, Nat.zero_le _⟩) fr hw hA (fun H locs hw => ?_)
      refine lv_aload_n hx hb dX6_lift_22 rfl (lv_at hl 0 rfl) ?_
      obtain ⟨oR6, oT7, g8, hf⟩ := bn2_e hf
      have fr := fr_X6_X6_oX_oP_oD_oR_oT_oB_oC_oG o cA oX oP oD oR oT oB4 oC oG oX oP oD oR6 oT7 oB4 oC oG
      refine go_v (run_v (As := []) (rest := []) ⟨hx, hb, hml, hown, hts⟩ (k_X6_forget l D cA tx ty o oX oP oD oR oT oB4 oC oG oR6 oT7 g8 H.size) (cwV 0 hts gX6_lift_X6_forget rfl rfl rfl hd_X6_forget ⟨Nat.le_of_ble_eq_true rfl, Nat.le_of_ble_eq_true rfl⟩) fr hw hK hA hZo hZ (ci := 6) rfl rfl rfl rfl hl.1 rfl (Nat.le_of_ble_eq_true rfl) dX6_lift_23 ⟨Nat.zero_le _, Nat.zero_le _⟩) fr hw hA (fun H locs hw => ?_)
      refine lv_aload_n hx hb dX6_lift_26 rfl (lv_at hl 0 rfl) ?_
      refine w_get hx hb hts hi6 hown hK hw 0 rfl rfl 1 (by decide) q0 rfl (v := .ref (o 7)) rfl dX6_lift_27 ?_
      refine w_get hx hb hts hi0 hown hK hw 14 rfl rfl 2 (by decide) q1 rfl (v := .int (oB4.1 2)) rfl dX6_lift_30 ?_
      obtain ⟨e0_, e1_, e2_, e3_⟩ := sm4 hf
      exact hret _ _ _ _ _ (by rw [← e1_, ← e2_, ← e3_]; exact hw) e0_ (Or.inl rfl) dX6_lift_33
    · have hf := if_t c3 hf
      refine lv_bipush (v := (-101)) hx hb dX6_lift_11 (by decide) ?_
      obtain ⟨e0_, e1_, e2_, e3_⟩ := sm4 hf
      exact hret _ _ _ _ _ (by rw [← e1_, ← e2_, ← e3_]; exact hw) e0_ (Or.inl rfl) dX6_lift_13
  rw [hH, hlc] at goal
  exact goal
abbrev rmX6_arc : Room := { frames := 3, cells := 0, slots := 0, locals := 70 }
theorem hd_X6_arc : yX6_arc.cls = RX6 ∧ yX6_arc.cls ≠ "java/lang/invoke/MethodHandle" ∧ yX6_arc.cls ≠ "java/lang/invoke/VarHandle" ∧ (parseMethodDescriptor yX6_arc.desc).map (fun d => d.parameters.length) = some 4 := by decide +kernel
set_option maxHeartbeats 4000000 in
set_option maxRecDepth 100000 in
theorem k_X6_arc (l : Launch) (D : va_G) (cA : ClassId) (tx ty : Nat) (o : Nat → Nat) (oX : St) (oP : St) (oD : St) (oR : St) (oT : St) (oB : St) (oC : St) (oG : St) (a1 : Int32) (a2 : Int32) (a3 : Int32) (a4 : Int32) (r : Int32) (oR' : St) (oT' : St) (oB' : St) (hf : f_X6_arc oR oT oB a1 a2 a3 a4 = some (r, oR', oT', oB')) : Mi l yX6_arc wsX6_arc rmX6_arc D cA (z_X tx ty) [.ref (o 0), .int a1, .int a2, .int a3, .int a4] (wX6 o cA oX oP oD oR oT oB oC oG) r (wX6 o cA oX oP oD oR' oT' oB' oC oG) := by
  refine Mi.of (cc := cX6_arc) (maxL := 10) (ret := (some .int)) (plainFor_of_name (by decide)) rfl (Nat.le_of_ble_eq_true rfl) (Or.inl rfl) ?_
  intro p e s m below meth c A Q hx hb hml hown hts hK hA hZ hret ls hl hw
  replace hown : s.vm.findClass RX6 = some m.cls := hown
  have hl : lv_has ls 10 [(0, .ref (o 0)), (1, .int a1), (2, .int a2), (3, .int a3), (4, .int a4)] := hl
  have hZo := z_X_ok tx ty
  have hi6 : ∀ w ∈ wsX60, w ∈ wsX6_arc := fun w h => List.mem_cons_of_mem _ (List.mem_append_left _ (List.mem_append_left _ (List.mem_append_left _ (List.mem_append_right _ h))))
  have q0 := hts (.fieldLink RX6 19 "ArcRings" "board" "LArcRings$Board;") (by decide +kernel)
  have q1 := hts (.fieldLink RX6 119 "ArcRings" "TURN_X" "[I") (by decide +kernel)
  have q2 := hts (.fieldLink RX6 123 "ArcRings" "TURN_Y" "[I") (by decide +kernel)
  have h_L66 : ∀ (v1 : Int32) (v2 : Int32) (v3 : Int32) (v4 : Int32) (v5 : Int32), ∀ (n : Nat) (v6 : Int32) (v7 : Int32) (oR : St) (oT : St) (oB : St), f_X6_arc_L66 v1 v2 v3 v4 v5 n v6 v7 oR oT oB = some (r, oR', oT', oB') → ∀ (H : Heap) (locs : List Loc) (ls : Array Slot), Wd D A s.heap H locs (wX6 o cA oX oP oD oR oT oB oC oG) → lv_has ls 10 [(0, .ref (o 0)), (1, .int v1), (2, .int v2), (3, .int v3), (4, .int v4), (5, .int v5), (6, .int v6), (7, .int v7)] → W p l e rmX6_arc s m ([.ref (o 0), .int a1, .int a2, .int a3, .int a4] : List Value).toArray below meth c H locs 0 0 Q (F0 m 66 ls []) := by
    intro v1 v2 v3 v4 v5 n
    induction n with
    | zero =>
      intro v6 v7 oR oT oB hf
      have hf : none = some (r, oR', oT', oB') := hf
      cases hf
    | succ n ih =>
      intro v6 v7 oR oT oB hf H locs ls hw hl
      have hf := (f_X6_arc_L66_s v1 v2 v3 v4 v5 n v6 v7 oR oT oB).symm.trans hf
      refine lv_iload hx hb dX6_arc_66 (lv_at hl 7 rfl) ?_
      refine lv_bipush (v := 8) hx hb dX6_arc_68 (by decide) ?_
      refine lv_icmp_ge (tgt := 151) hx hb dX6_arc_70 (by decide) (fun c16 => ?_) (fun c16 => ?_)
      · have hf := if_t c16 hf
        refine lv_iload hx hb dX6_arc_151 (lv_at hl 6 rfl) ?_
        obtain ⟨e0_, e1_, e2_, e3_⟩ := sm4 hf
        exact hret _ _ _ _ _ (by rw [← e1_, ← e2_, ← e3_]; exact hw) e0_ (Or.inl rfl) dX6_arc_153
      · have hf := if_f c16 hf
        refine lv_iload hx hb dX6_arc_73 (lv_at hl 7 rfl) ?_
        refine lv_iconst (v := 2) hx hb dX6_arc_75 (by decide) ?_
        refine lv_irem hx hb dX6_arc_76 (by decide) ?_
        refine lv_if_ne (tgt := 84) hx hb dX6_arc_77 (by decide) (fun c17 => ?_) (fun c17 => ?_)
        · have hf := if_f c17 hf
          refine lv_iload hx hb dX6_arc_84 (lv_at hl 5 rfl) ?_
          refine lv_istore (lv' := [(8, .int v5), (0, .ref (o 0)), (1, .int v1), (2, .int v2), (3, .int v3), (4, .int v4), (5, .int v5), (6, .int v6), (7, .int v7)]) hx hb dX6_arc_86 hl (by decide) rfl (fun ls hl => ?_)
          refine lv_iload hx hb dX6_arc_88 (lv_at hl 5 rfl) ?_
          refine lv_iload hx hb dX6_arc_90 (lv_at hl 8 rfl) ?_
          refine lv_ishr hx hb dX6_arc_92 ?_
          refine lv_iconst (v := 1) hx hb dX6_arc_93 (by decide) ?_
          refine lv_iand hx hb dX6_arc_94 ?_
          refine lv_iconst (v := 1) hx hb dX6_arc_95 (by decide) ?_
          refine lv_icmp_ne (tgt := 103) hx hb dX6_arc_96 (by decide) (fun c18 => ?_) (fun c18 => ?_)
          · have hf := if_f c18 hf
            refine lv_iconst (v := 0) hx hb dX6_arc_103 (by decide) ?_
            refine lv_istore (lv' := [(9, .int 0), (8, .int v5), (0, .ref (o 0)), (1, .int v1), (2, .int v2), (3, .int v3), (4, .int v4), (5, .int v5), (6, .int v6), (7, .int v7)]) hx hb dX6_arc_104 hl (by decide) rfl (fun ls hl => ?_)
            refine lv_iload hx hb dX6_arc_106 (lv_at hl 0 rfl) ?_
            refine lv_if_eq (tgt := 145) hx hb dX6_arc_108 (by decide) (fun c19 => ?_) (fun c19 => ?_)
            rotate_left
            · exact absurd c19 (by decide)
            refine lv_iinc (v := v7 + 1) (lv' := [(7, .int (v7 + 1)), (9, .int 0), (8, .int v5), (0, .ref (o 0)), (1, .int v1), (2, .int v2), (3, .int v3), (4, .int v4), (5, .int v5), (6, .int v6)]) hx hb dX6_arc_145 hl (k := 9) rfl (by rfl) (by decide) rfl (fun ls hl => ?_)
            refine lv_goto (tgt := 66) hx hb dX6_arc_148 (by decide) ?_
            exact ih v6 (v7 + 1) oR oT oB hf H locs ls hw (lv_sub hl [3, 4, 5, 6, 7, 8, 9, 0] rfl)
          · have hf := if_t c18 hf
            refine lv_iconst (v := 1) hx hb dX6_arc_99 (by decide) ?_
            refine lv_goto (tgt := 104) hx hb dX6_arc_100 (by decide) ?_
            refine lv_istore (lv' := [(9, .int 1), (8, .int v5), (0, .ref (o 0)), (1, .int v1), (2, .int v2), (3, .int v3), (4, .int v4), (5, .int v5), (6, .int v6), (7, .int v7)]) hx hb dX6_arc_104 hl (by decide) rfl (fun ls hl => ?_)
            refine lv_iload hx hb dX6_arc_106 (lv_at hl 0 rfl) ?_
            refine lv_if_eq (tgt := 145) hx hb dX6_arc_108 (by decide) (fun c20 => ?_) (fun c20 => ?_)
            · exact absurd c20 (by decide)
            refine lv_aload_n hx hb dX6_arc_111 rfl (lv_at hl 2 rfl) ?_
            refine lv_iload_n hx hb dX6_arc_112 rfl (lv_at hl 3 rfl) ?_
            refine lv_iload hx hb dX6_arc_113 (lv_at hl 1 rfl) ?_
            refine va_gets hx hb hZ.1 hw.2.2 hown q1 (fun _ h => h) dX6_arc_115 ?_
            refine lv_iload hx hb dX6_arc_118 (lv_at hl 9 rfl) ?_
            obtain ⟨x21, g22, hf⟩ := bn1_e hf
            refine w_tald hx hb hZ.2.2.1 hw g22 dX6_arc_120 ?_
            refine lv_imul hx hb dX6_arc_121 ?_
            refine lv_isub hx hb dX6_arc_122 ?_
            refine lv_iload_n hx hb dX6_arc_123 rfl (lv_at hl 4 rfl) ?_
            refine lv_iload hx hb dX6_arc_124 (lv_at hl 1 rfl) ?_
            refine va_gets hx hb hZ.2.1 hw.2.2 hown q2 (fun _ h => h) dX6_arc_126 ?_
            refine lv_iload hx hb dX6_arc_129 (lv_at hl 9 rfl) ?_
            obtain ⟨x23, g24, hf⟩ := bn1_e hf
            refine w_tald hx hb hZ.2.2.2.1 hw g24 dX6_arc_131 ?_
            refine lv_imul hx hb dX6_arc_132 ?_
            refine lv_isub hx hb dX6_arc_133 ?_
            refine lv_iload hx hb dX6_arc_134 (lv_at hl 9 rfl) ?_
            obtain ⟨x25, oR26, oT27, oB28, g29, hf⟩ := bn4_e hf
            have fr := fr_X6_X6_oX_oP_oD_oR_oT_oB_oC_oG o cA oX oP oD oR oT oB oC oG oX oP oD oR26 oT27 oB28 oC oG
            refine go_i (run_v (As := [.int (v1 - (v5 * x21)), .int (v2 - (v5 * x23)), .int v7]) (rest := []) ⟨hx, hb, hml, hown, hts⟩ (k_X6_comes l D cA tx ty o oX oP oD oR oT oB oC oG (v1 - (v5 * x21)) (v2 - (v5 * x23)) v7 x25 oR26 oT27 oB28 g29 H.size) (cwV 3 hts gX6_arc_X6_comes rfl rfl rfl hd_X6_comes ⟨Nat.le_of_ble_eq_true rfl, Nat.le_of_ble_eq_true rfl⟩) fr hw hK hA hZo hZ (ci := 6) rfl rfl rfl rfl hl.1 rfl (Nat.le_of_ble_eq_true rfl) dX6_arc_136 ⟨Nat.zero_le _, Nat.zero_le _⟩) fr hw hA (fun H locs hw => ?_)
            refine lv_if_eq (tgt := 145) hx hb dX6_arc_139 (by decide) (fun c30 => ?_) (fun c30 => ?_)
            · have hf := if_t c30 hf
              refine lv_iinc (v := v7 + 1) (lv' := [(7, .int (v7 + 1)), (9, .int 1), (8, .int v5), (0, .ref (o 0)), (1, .int v1), (2, .int v2), (3, .int v3), (4, .int v4), (5, .int v5), (6, .int v6)]) hx hb dX6_arc_145 hl (k := 9) rfl (by rfl) (by decide) rfl (fun ls hl => ?_)
              refine lv_goto (tgt := 66) hx hb dX6_arc_148 (by decide) ?_
              exact ih v6 (v7 + 1) oR26 oT27 oB28 hf H locs ls hw (lv_sub hl [3, 4, 5, 6, 7, 8, 9, 0] rfl)
            · have hf := if_f c30 hf
              refine lv_iinc (v := v6 + 1) (lv' := [(6, .int (v6 + 1)), (9, .int 1), (8, .int v5), (0, .ref (o 0)), (1, .int v1), (2, .int v2), (3, .int v3), (4, .int v4), (5, .int v5), (7, .int v7)]) hx hb dX6_arc_142 hl (k := 8) rfl (by rfl) (by decide) rfl (fun ls hl => ?_)
              refine lv_iinc (v := v7 + 1) (lv' := [(7, .int (v7 + 1)), (6, .int (v6 + 1)), (9, .int 1), (8, .int v5), (0, .ref (o 0)), (1, .int v1), (2, .int v2), (3, .int v3), (4, .int v4), (5, .int v5)]) hx hb dX6_arc_145 hl (k := 9) rfl (by rfl) (by decide) rfl (fun ls hl => ?_)
              refine lv_goto (tgt := 66) hx hb dX6_arc_148 (by decide) ?_
              exact ih (v6 + 1) (v7 + 1) oR26 oT27 oB28 hf H locs ls hw (lv_sub hl [4, 5, 6, 7, 8, 9, 1, 0] rfl)
        · have hf := if_t c17 hf
          refine lv_iload_n hx hb dX6_arc_80 rfl (lv_at hl 3 rfl) ?_
          refine lv_goto (tgt := 86) hx hb dX6_arc_81 (by decide) ?_
          refine lv_istore (lv' := [(8, .int v3), (0, .ref (o 0)), (1, .int v1), (2, .int v2), (3, .int v3), (4, .int v4), (5, .int v5), (6, .int v6), (7, .int v7)]) hx hb dX6_arc_86 hl (by decide) rfl (fun ls hl => ?_)
          refine lv_iload hx hb dX6_arc_88 (lv_at hl 5 rfl) ?_
          refine lv_iload hx hb dX6_arc_90 (lv_at hl 8 rfl) ?_
          refine lv_ishr hx hb dX6_arc_92 ?_
          refine lv_iconst (v := 1) hx hb dX6_arc_93 (by decide) ?_
          refine lv_iand hx hb dX6_arc_94 ?_
          refine lv_iconst (v := 1) hx hb dX6_arc_95 (by decide) ?_
          refine lv_icmp_ne (tgt := 103) hx hb dX6_arc_96 (by decide) (fun c31 => ?_) (fun c31 => ?_)
          · have hf := if_f c31 hf
            refine lv_iconst (v := 0) hx hb dX6_arc_103 (by decide) ?_
            refine lv_istore (lv' := [(9, .int 0), (8, .int v3), (0, .ref (o 0)), (1, .int v1), (2, .int v2), (3, .int v3), (4, .int v4), (5, .int v5), (6, .int v6), (7, .int v7)]) hx hb dX6_arc_104 hl (by decide) rfl (fun ls hl => ?_)
            refine lv_iload hx hb dX6_arc_106 (lv_at hl 0 rfl) ?_
            refine lv_if_eq (tgt := 145) hx hb dX6_arc_108 (by decide) (fun c32 => ?_) (fun c32 => ?_)
            rotate_left
            · exact absurd c32 (by decide)
            refine lv_iinc (v := v7 + 1) (lv' := [(7, .int (v7 + 1)), (9, .int 0), (8, .int v3), (0, .ref (o 0)), (1, .int v1), (2, .int v2), (3, .int v3), (4, .int v4), (5, .int v5), (6, .int v6)]) hx hb dX6_arc_145 hl (k := 9) rfl (by rfl) (by decide) rfl (fun ls hl => ?_)
            refine lv_goto (tgt := 66) hx hb dX6_arc_148 (by decide) ?_
            exact ih v6 (v7 + 1) oR oT oB hf H locs ls hw (lv_sub hl [3, 4, 5, 6, 7, 8, 9, 0] rfl)
          · have hf := if_t c31 hf
            refine lv_iconst (v := 1) hx hb dX6_arc_99 (by decide) ?_
            refine lv_goto (tgt := 104) hx hb dX6_arc_100 (by decide) ?_
            refine lv_istore (lv' := [(9, .int 1), (8, .int v3), (0, .ref (o 0)), (1, .int v1), (2, .int v2), (3, .int v3), (4, .int v4), (5, .int v5), (6, .int v6), (7, .int v7)]) hx hb dX6_arc_104 hl (by decide) rfl (fun ls hl => ?_)
            refine lv_iload hx hb dX6_arc_106 (lv_at hl 0 rfl) ?_
            refine lv_if_eq (tgt := 145) hx hb dX6_arc_108 (by decide) (fun c33 => ?_) (fun c33 => ?_)
            · exact absurd c33 (by decide)
            refine lv_aload_n hx hb dX6_arc_111 rfl (lv_at hl 2 rfl) ?_
            refine lv_iload_n hx hb dX6_arc_112 rfl (lv_at hl 3 rfl) ?_
            refine lv_iload hx hb dX6_arc_113 (lv_at hl 1 rfl) ?_
            refine va_gets hx hb hZ.1 hw.2.2 hown q1 (fun _ h => h) dX6_arc_115 ?_
            refine lv_iload hx hb dX6_arc_118 (lv_at hl 9 rfl) ?_
            obtain ⟨x34, g35, hf⟩ := bn1_e hf
            refine w_tald hx hb hZ.2.2.1 hw g35 dX6_arc_120 ?_
            refine lv_imul hx hb dX6_arc_121 ?_
            refine lv_isub hx hb dX6_arc_122 ?_
            refine lv_iload_n hx hb dX6_arc_123 rfl (lv_at hl 4 rfl) ?_
            refine lv_iload hx hb dX6_arc_124 (lv_at hl 1 rfl) ?_
            refine va_gets hx hb hZ.2.1 hw.2.2 hown q2 (fun _ h => h) dX6_arc_126 ?_
            refine lv_iload hx hb dX6_arc_129 (lv_at hl 9 rfl) ?_
            obtain ⟨x36, g37, hf⟩ := bn1_e hf
            refine w_tald hx hb hZ.2.2.2.1 hw g37 dX6_arc_131 ?_
            refine lv_imul hx hb dX6_arc_132 ?_
            refine lv_isub hx hb dX6_arc_133 ?_
            refine lv_iload hx hb dX6_arc_134 (lv_at hl 9 rfl) ?_
            obtain ⟨x38, oR39, oT40, oB41, g42, hf⟩ := bn4_e hf
            have fr := fr_X6_X6_oX_oP_oD_oR_oT_oB_oC_oG o cA oX oP oD oR oT oB oC oG oX oP oD oR39 oT40 oB41 oC oG
            refine go_i (run_v (As := [.int (v1 - (v3 * x34)), .int (v2 - (v3 * x36)), .int v7]) (rest := []) ⟨hx, hb, hml, hown, hts⟩ (k_X6_comes l D cA tx ty o oX oP oD oR oT oB oC oG (v1 - (v3 * x34)) (v2 - (v3 * x36)) v7 x38 oR39 oT40 oB41 g42 H.size) (cwV 3 hts gX6_arc_X6_comes rfl rfl rfl hd_X6_comes ⟨Nat.le_of_ble_eq_true rfl, Nat.le_of_ble_eq_true rfl⟩) fr hw hK hA hZo hZ (ci := 6) rfl rfl rfl rfl hl.1 rfl (Nat.le_of_ble_eq_true rfl) dX6_arc_136 ⟨Nat.zero_le _, Nat.zero_le _⟩) fr hw hA (fun H locs hw => ?_)
            refine lv_if_eq (tgt := 145) hx hb dX6_arc_139 (by decide) (fun c43 => ?_) (fun c43 => ?_)
            · have hf := if_t c43 hf
              refine lv_iinc (v := v7 + 1) (lv' := [(7, .int (v7 + 1)), (9, .int 1), (8, .int v3), (0, .ref (o 0)), (1, .int v1), (2, .int v2), (3, .int v3), (4, .int v4), (5, .int v5), (6, .int v6)]) hx hb dX6_arc_145 hl (k := 9) rfl (by rfl) (by decide) rfl (fun ls hl => ?_)
              refine lv_goto (tgt := 66) hx hb dX6_arc_148 (by decide) ?_
              exact ih v6 (v7 + 1) oR39 oT40 oB41 hf H locs ls hw (lv_sub hl [3, 4, 5, 6, 7, 8, 9, 0] rfl)
            · have hf := if_f c43 hf
              refine lv_iinc (v := v6 + 1) (lv' := [(6, .int (v6 + 1)), (9, .int 1), (8, .int v3), (0, .ref (o 0)), (1, .int v1), (2, .int v2), (3, .int v3), (4, .int v4), (5, .int v5), (7, .int v7)]) hx hb dX6_arc_142 hl (k := 8) rfl (by rfl) (by decide) rfl (fun ls hl => ?_)
              refine lv_iinc (v := v7 + 1) (lv' := [(7, .int (v7 + 1)), (6, .int (v6 + 1)), (9, .int 1), (8, .int v3), (0, .ref (o 0)), (1, .int v1), (2, .int v2), (3, .int v3), (4, .int v4), (5, .int v5)]) hx hb dX6_arc_145 hl (k := 9) rfl (by rfl) (by decide) rfl (fun ls hl => ?_)
              refine lv_goto (tgt := 66) hx hb dX6_arc_148 (by decide) ?_
              exact ih (v6 + 1) (v7 + 1) oR39 oT40 oB41 hf H locs ls hw (lv_sub hl [4, 5, 6, 7, 8, 9, 1, 0] rfl)
  unfold f_X6_arc at hf
  obtain ⟨H, hH⟩ : ∃ H, H = s.heap := ⟨_, rfl⟩
  obtain ⟨locs, hlc⟩ : ∃ locs : List Loc, locs = [] := ⟨_, rfl⟩
  have hw : Wd D A s.heap H locs (wX6 o cA oX oP oD oR oT oB oC oG) := by rw [hH, hlc]; exact hw
  have goal : W p l e rmX6_arc s m ([.ref (o 0), .int a1, .int a2, .int a3, .int a4] : List Value).toArray below meth c H locs 0 0 Q (F0 m 0 ls []) := by
    clear hH hlc
    refine lv_aload_n hx hb dX6_arc_0 rfl (lv_at hl 0 rfl) ?_
    refine w_get hx hb hts hi6 hown hK hw 0 rfl rfl 1 (by decide) q0 rfl (v := .ref (o 7)) rfl dX6_arc_1 ?_
    obtain ⟨x1, g2, hf⟩ := bn1_e hf
    have fr := fr_X6_X0_oB o cA oX oP oD oR oT oB oC oG oB
    refine go_i (run_v (As := []) (rest := []) ⟨hx, hb, hml, hown, hts⟩ (k_X0_isThere l D cA tx ty o 7 oB x1 g2 H.size) (cwV 0 hts gX6_arc_X0_isThere rfl rfl rfl hd_X0_isThere ⟨Nat.le_of_ble_eq_true rfl, Nat.le_of_ble_eq_true rfl⟩) fr hw hK hA hZo hZ (ci := 0) rfl rfl rfl rfl hl.1 rfl (Nat.le_of_ble_eq_true rfl) dX6_arc_4 ⟨Nat.zero_le _, Nat.zero_le _⟩) fr hw hA (fun H locs hw => ?_)
    refine lv_if_ne (tgt := 13) hx hb dX6_arc_7 (by decide) (fun c3 => ?_) (fun c3 => ?_)
    · have hf := if_f c3 hf
      refine lv_iload_n hx hb dX6_arc_13 rfl (lv_at hl 1 rfl) ?_
      obtain ⟨x4, g5, hf⟩ := bn1_e hf
      have fr := fr_X6_S o cA oX oP oD oR oT oB oC oG
      refine go_i (run_s (As := [.int a1]) (rest := []) ⟨hx, hb, hml, hown, hts⟩ (k_X6_isBeyond l D cA a1 x4 g5 H.size) (va_cwS 1 hts gX6_arc_X6_isBeyond rfl rfl rfl hd_X6_isBeyond ⟨Nat.le_of_ble_eq_true rfl, Nat.le_of_ble_eq_true rfl⟩) fr hw hK hA rfl hl.1 rfl (Nat.le_of_ble_eq_true rfl) dX6_arc_14 ⟨Nat.zero_le _, Nat.zero_le _⟩) fr hw hA (fun H locs hw => ?_)
      refine lv_if_ne (tgt := 51) hx hb dX6_arc_17 (by decide) (fun c6 => ?_) (fun c6 => ?_)
      · have hf := if_f c6 hf
        refine lv_bipush (v := (-102)) hx hb dX6_arc_51 (by decide) ?_
        obtain ⟨e0_, e1_, e2_, e3_⟩ := sm4 hf
        exact hret _ _ _ _ _ (by rw [← e1_, ← e2_, ← e3_]; exact hw) e0_ (Or.inl rfl) dX6_arc_53
      · have hf := if_t c6 hf
        refine lv_iload_n hx hb dX6_arc_20 rfl (lv_at hl 2 rfl) ?_
        obtain ⟨x7, g8, hf⟩ := bn1_e hf
        have fr := fr_X6_S o cA oX oP oD oR oT oB oC oG
        refine go_i (run_s (As := [.int a2]) (rest := []) ⟨hx, hb, hml, hown, hts⟩ (k_X6_isBeyond l D cA a2 x7 g8 H.size) (va_cwS 1 hts gX6_arc_X6_isBeyond rfl rfl rfl hd_X6_isBeyond ⟨Nat.le_of_ble_eq_true rfl, Nat.le_of_ble_eq_true rfl⟩) fr hw hK hA rfl hl.1 rfl (Nat.le_of_ble_eq_true rfl) dX6_arc_21 ⟨Nat.zero_le _, Nat.zero_le _⟩) fr hw hA (fun H locs hw => ?_)
        refine lv_if_ne (tgt := 51) hx hb dX6_arc_24 (by decide) (fun c9 => ?_) (fun c9 => ?_)
        · have hf := if_f c9 hf
          refine lv_bipush (v := (-102)) hx hb dX6_arc_51 (by decide) ?_
          obtain ⟨e0_, e1_, e2_, e3_⟩ := sm4 hf
          exact hret _ _ _ _ _ (by rw [← e1_, ← e2_, ← e3_]; exact hw) e0_ (Or.inl rfl) dX6_arc_53
        · have hf := if_t c9 hf
          refine lv_iload_n hx hb dX6_arc_27 rfl (lv_at hl 3 rfl) ?_
          refine lv_iconst (v := 1) hx hb dX6_arc_28 (by decide) ?_
          refine lv_icmp_lt (tgt := 51) hx hb dX6_arc_29 (by decide) (fun c10 => ?_) (fun c10 => ?_)
          · have hf := if_t c10 hf
            refine lv_bipush (v := (-102)) hx hb dX6_arc_51 (by decide) ?_
            obtain ⟨e0_, e1_, e2_, e3_⟩ := sm4 hf
            exact hret _ _ _ _ _ (by rw [← e1_, ← e2_, ← e3_]; exact hw) e0_ (Or.inl rfl) dX6_arc_53
          · have hf := if_f c10 hf
            refine lv_iload_n hx hb dX6_arc_32 rfl (lv_at hl 3 rfl) ?_
            refine lv_bipush (v := 31) hx hb dX6_arc_33 (by decide) ?_
            refine lv_icmp_gt (tgt := 51) hx hb dX6_arc_35 (by decide) (fun c11 => ?_) (fun c11 => ?_)
            · have hf := if_t c11 hf
              refine lv_bipush (v := (-102)) hx hb dX6_arc_51 (by decide) ?_
              obtain ⟨e0_, e1_, e2_, e3_⟩ := sm4 hf
              exact hret _ _ _ _ _ (by rw [← e1_, ← e2_, ← e3_]; exact hw) e0_ (Or.inl rfl) dX6_arc_53
            · have hf := if_f c11 hf
              refine lv_iload hx hb dX6_arc_38 (lv_at hl 4 rfl) ?_
              refine lv_if_lt (tgt := 51) hx hb dX6_arc_40 (by decide) (fun c12 => ?_) (fun c12 => ?_)
              · have hf := if_t c12 hf
                refine lv_bipush (v := (-102)) hx hb dX6_arc_51 (by decide) ?_
                obtain ⟨e0_, e1_, e2_, e3_⟩ := sm4 hf
                exact hret _ _ _ _ _ (by rw [← e1_, ← e2_, ← e3_]; exact hw) e0_ (Or.inl rfl) dX6_arc_53
              · have hf := if_f c12 hf
                refine lv_iload hx hb dX6_arc_43 (lv_at hl 4 rfl) ?_
                refine lv_sipush (v := 255) hx hb dX6_arc_45 (by decide) ?_
                refine lv_icmp_le (tgt := 54) hx hb dX6_arc_48 (by decide) (fun c13 => ?_) (fun c13 => ?_)
                · have hf := if_t c13 hf
                  refine lv_iload_n hx hb dX6_arc_54 rfl (lv_at hl 3 rfl) ?_
                  obtain ⟨x14, g15, hf⟩ := bn1_e hf
                  have fr := fr_X6_S o cA oX oP oD oR oT oB oC oG
                  refine go_i (run_s (As := [.int a3]) (rest := []) ⟨hx, hb, hml, hown, hts⟩ (k_X6_slantingSteps l D cA a3 x14 g15 H.size) (va_cwS 1 hts gX6_arc_X6_slantingSteps rfl rfl rfl hd_X6_slantingSteps ⟨Nat.le_of_ble_eq_true rfl, Nat.le_of_ble_eq_true rfl⟩) fr hw hK hA rfl hl.1 rfl (Nat.le_of_ble_eq_true rfl) dX6_arc_55 ⟨Nat.zero_le _, Nat.zero_le _⟩) fr hw hA (fun H locs hw => ?_)
                  refine lv_istore (lv' := [(5, .int x14), (0, .ref (o 0)), (1, .int a1), (2, .int a2), (3, .int a3), (4, .int a4)]) hx hb dX6_arc_58 hl (by decide) rfl (fun ls hl => ?_)
                  refine lv_iconst (v := 0) hx hb dX6_arc_60 (by decide) ?_
                  refine lv_istore (lv' := [(6, .int 0), (5, .int x14), (0, .ref (o 0)), (1, .int a1), (2, .int a2), (3, .int a3), (4, .int a4)]) hx hb dX6_arc_61 hl (by decide) rfl (fun ls hl => ?_)
                  refine lv_iconst (v := 0) hx hb dX6_arc_63 (by decide) ?_
                  refine lv_istore (lv' := [(7, .int 0), (6, .int 0), (5, .int x14), (0, .ref (o 0)), (1, .int a1), (2, .int a2), (3, .int a3), (4, .int a4)]) hx hb dX6_arc_64 hl (by decide) rfl (fun ls hl => ?_)
                  exact h_L66 a1 a2 a3 a4 x14 _ 0 0 oR oT oB hf H locs ls hw (lv_sub hl [3, 4, 5, 6, 7, 2, 1, 0] rfl)
                · have hf := if_f c13 hf
                  refine lv_bipush (v := (-102)) hx hb dX6_arc_51 (by decide) ?_
                  obtain ⟨e0_, e1_, e2_, e3_⟩ := sm4 hf
                  exact hret _ _ _ _ _ (by rw [← e1_, ← e2_, ← e3_]; exact hw) e0_ (Or.inl rfl) dX6_arc_53
    · have hf := if_t c3 hf
      refine lv_bipush (v := (-103)) hx hb dX6_arc_10 (by decide) ?_
      obtain ⟨e0_, e1_, e2_, e3_⟩ := sm4 hf
      exact hret _ _ _ _ _ (by rw [← e1_, ← e2_, ← e3_]; exact hw) e0_ (Or.inl rfl) dX6_arc_12
  rw [hH, hlc] at goal
  exact goal
abbrev rmX6_strew : Room := { frames := 3, cells := 0, slots := 0, locals := 70 }
theorem hd_X6_strew : yX6_strew.cls = RX6 ∧ yX6_strew.cls ≠ "java/lang/invoke/MethodHandle" ∧ yX6_strew.cls ≠ "java/lang/invoke/VarHandle" ∧ (parseMethodDescriptor yX6_strew.desc).map (fun d => d.parameters.length) = some 2 := by decide +kernel
set_option maxHeartbeats 4000000 in
set_option maxRecDepth 100000 in
theorem k_X6_strew (l : Launch) (D : va_G) (cA : ClassId) (tx ty : Nat) (o : Nat → Nat) (oX : St) (oP : St) (oD : St) (oR : St) (oT : St) (oB : St) (oC : St) (oG : St) (a1 : Int32) (a2 : Int32) (r : Int32) (oR' : St) (oT' : St) (oB' : St) (hf : f_X6_strew oR oT oB a1 a2 = some (r, oR', oT', oB')) : Mi l yX6_strew wsX6_strew rmX6_strew D cA (z_X tx ty) [.ref (o 0), .int a1, .int a2] (wX6 o cA oX oP oD oR oT oB oC oG) r (wX6 o cA oX oP oD oR' oT' oB' oC oG) := by
  refine Mi.of (cc := cX6_strew) (maxL := 9) (ret := (some .int)) (plainFor_of_name (by decide)) rfl (Nat.le_of_ble_eq_true rfl) (Or.inl rfl) ?_
  intro p e s m below meth c A Q hx hb hml hown hts hK hA hZ hret ls hl hw
  replace hown : s.vm.findClass RX6 = some m.cls := hown
  have hl : lv_has ls 9 [(0, .ref (o 0)), (1, .int a1), (2, .int a2)] := hl
  have hZo := z_X_ok tx ty
  have hi0 : ∀ w ∈ wsX00, w ∈ wsX6_strew := fun w h => List.mem_cons_of_mem _ (List.mem_append_left _ (List.mem_append_left _ (List.mem_append_right _ h)))
  have hi6 : ∀ w ∈ wsX60, w ∈ wsX6_strew := fun w h => List.mem_cons_of_mem _ (List.mem_append_left _ (List.mem_append_left _ (List.mem_append_left _ (List.mem_append_right _ h))))
  have q0 := hts (.fieldLink RX6 19 "ArcRings" "board" "LArcRings$Board;") (by decide +kernel)
  have q1 := hts (.fieldLink RX6 129 "ArcRings$Board" "width" "I") (by decide +kernel)
  have q2 := hts (.fieldLink RX6 136 "ArcRings$Board" "height" "I") (by decide +kernel)
  have h_L39 : ∀ (v1 : Int32), ∀ (n : Nat) (v3 : Int32) (v4 : Int32) (v5 : Int32) (oR : St) (oT : St) (oB : St), f_X6_strew_L39 v1 n v3 v4 v5 oR oT oB = some (r, oR', oT', oB') → ∀ (H : Heap) (locs : List Loc) (ls : Array Slot), Wd D A s.heap H locs (wX6 o cA oX oP oD oR oT oB oC oG) → lv_has ls 9 [(0, .ref (o 0)), (1, .int v1), (3, .int v3), (4, .int v4), (5, .int v5)] → W p l e rmX6_strew s m ([.ref (o 0), .int a1, .int a2] : List Value).toArray below meth c H locs 0 0 Q (F0 m 39 ls []) := by
    intro v1 n
    induction n with
    | zero =>
      intro v3 v4 v5 oR oT oB hf
      have hf : none = some (r, oR', oT', oB') := hf
      cases hf
    | succ n ih =>
      intro v3 v4 v5 oR oT oB hf H locs ls hw hl
      have hf := (f_X6_strew_L39_s v1 n v3 v4 v5 oR oT oB).symm.trans hf
      refine lv_iload hx hb dX6_strew_39 (lv_at hl 4 rfl) ?_
      refine lv_iload_n hx hb dX6_strew_41 rfl (lv_at hl 1 rfl) ?_
      refine lv_icmp_ge (tgt := 136) hx hb dX6_strew_42 (by decide) (fun c7 => ?_) (fun c7 => ?_)
      · have hf := if_t c7 hf
        refine lv_iload_n hx hb dX6_strew_136 rfl (lv_at hl 2 rfl) ?_
        obtain ⟨e0_, e1_, e2_, e3_⟩ := sm4 hf
        exact hret _ _ _ _ _ (by rw [← e1_, ← e2_, ← e3_]; exact hw) e0_ (Or.inl rfl) dX6_strew_137
      · have hf := if_f c7 hf
        refine lv_iload hx hb dX6_strew_45 (lv_at hl 3 rfl) ?_
        obtain ⟨x8, g9, hf⟩ := bn1_e hf
        have fr := fr_X6_S o cA oX oP oD oR oT oB oC oG
        refine go_i (run_s (As := [.int v4]) (rest := []) ⟨hx, hb, hml, hown, hts⟩ (k_X6_nextSeed l D cA v4 x8 g9 H.size) (va_cwS 1 hts gX6_strew_X6_nextSeed rfl rfl rfl hd_X6_nextSeed ⟨Nat.le_of_ble_eq_true rfl, Nat.le_of_ble_eq_true rfl⟩) fr hw hK hA rfl hl.1 rfl (Nat.le_of_ble_eq_true rfl) dX6_strew_47 ⟨Nat.zero_le _, Nat.zero_le _⟩) fr hw hA (fun H locs hw => ?_)
        refine lv_istore (lv' := [(4, .int x8), (0, .ref (o 0)), (1, .int v1), (3, .int v3), (5, .int v5)]) hx hb dX6_strew_50 hl (by decide) rfl (fun ls hl => ?_)
        refine lv_iload hx hb dX6_strew_52 (lv_at hl 0 rfl) ?_
        refine lv_aload_n hx hb dX6_strew_54 rfl (lv_at hl 1 rfl) ?_
        refine w_get hx hb hts hi6 hown hK hw 0 rfl rfl 1 (by decide) q0 rfl (v := .ref (o 7)) rfl dX6_strew_55 ?_
        refine w_get hx hb hts hi0 hown hK hw 14 rfl rfl 0 (by decide) q1 rfl (v := .int (oB.1 0)) rfl dX6_strew_58 ?_
        obtain ⟨x10, g11, hf⟩ := bn1_e hf
        have fr := fr_X6_S o cA oX oP oD oR oT oB oC oG
        refine go_i (run_s (As := [.int x8, .int (oB.1 0)]) (rest := []) ⟨hx, hb, hml, hown, hts⟩ (k_X6_drawn l D cA x8 (oB.1 0) x10 g11 H.size) (va_cwS 2 hts gX6_strew_X6_drawn rfl rfl rfl hd_X6_drawn ⟨Nat.le_of_ble_eq_true rfl, Nat.le_of_ble_eq_true rfl⟩) fr hw hK hA rfl hl.1 rfl (Nat.le_of_ble_eq_true rfl) dX6_strew_61 ⟨Nat.zero_le _, Nat.zero_le _⟩) fr hw hA (fun H locs hw => ?_)
        refine lv_istore (lv' := [(6, .int x10), (4, .int x8), (0, .ref (o 0)), (1, .int v1), (3, .int v3), (5, .int v5)]) hx hb dX6_strew_64 hl (by decide) rfl (fun ls hl => ?_)
        refine lv_iload hx hb dX6_strew_66 (lv_at hl 1 rfl) ?_
        obtain ⟨x12, g13, hf⟩ := bn1_e hf
        have fr := fr_X6_S o cA oX oP oD oR oT oB oC oG
        refine go_i (run_s (As := [.int x8]) (rest := []) ⟨hx, hb, hml, hown, hts⟩ (k_X6_nextSeed l D cA x8 x12 g13 H.size) (va_cwS 1 hts gX6_strew_X6_nextSeed rfl rfl rfl hd_X6_nextSeed ⟨Nat.le_of_ble_eq_true rfl, Nat.le_of_ble_eq_true rfl⟩) fr hw hK hA rfl hl.1 rfl (Nat.le_of_ble_eq_true rfl) dX6_strew_68 ⟨Nat.zero_le _, Nat.zero_le _⟩) fr hw hA (fun H locs hw => ?_)
        refine lv_istore (lv' := [(4, .int x12), (6, .int x10), (0, .ref (o 0)), (1, .int v1), (3, .int v3), (5, .int v5)]) hx hb dX6_strew_71 hl (by decide) rfl (fun ls hl => ?_)
        refine lv_iload hx hb dX6_strew_73 (lv_at hl 0 rfl) ?_
        refine lv_aload_n hx hb dX6_strew_75 rfl (lv_at hl 2 rfl) ?_
        refine w_get hx hb hts hi6 hown hK hw 0 rfl rfl 1 (by decide) q0 rfl (v := .ref (o 7)) rfl dX6_strew_76 ?_
        refine w_get hx hb hts hi0 hown hK hw 14 rfl rfl 1 (by decide) q2 rfl (v := .int (oB.1 1)) rfl dX6_strew_79 ?_
        obtain ⟨x14, g15, hf⟩ := bn1_e hf
        have fr := fr_X6_S o cA oX oP oD oR oT oB oC oG
        refine go_i (run_s (As := [.int x12, .int (oB.1 1)]) (rest := []) ⟨hx, hb, hml, hown, hts⟩ (k_X6_drawn l D cA x12 (oB.1 1) x14 g15 H.size) (va_cwS 2 hts gX6_strew_X6_drawn rfl rfl rfl hd_X6_drawn ⟨Nat.le_of_ble_eq_true rfl, Nat.le_of_ble_eq_true rfl⟩) fr hw hK hA rfl hl.1 rfl (Nat.le_of_ble_eq_true rfl) dX6_strew_82 ⟨Nat.zero_le _, Nat.zero_le _⟩) fr hw hA (fun H locs hw => ?_)
        refine lv_istore (lv' := [(7, .int x14), (4, .int x12), (6, .int x10), (0, .ref (o 0)), (1, .int v1), (3, .int v3), (5, .int v5)]) hx hb dX6_strew_85 hl (by decide) rfl (fun ls hl => ?_)
        refine lv_iload hx hb dX6_strew_87 (lv_at hl 1 rfl) ?_
        obtain ⟨x16, g17, hf⟩ := bn1_e hf
        have fr := fr_X6_S o cA oX oP oD oR oT oB oC oG
        refine go_i (run_s (As := [.int x12]) (rest := []) ⟨hx, hb, hml, hown, hts⟩ (k_X6_nextSeed l D cA x12 x16 g17 H.size) (va_cwS 1 hts gX6_strew_X6_nextSeed rfl rfl rfl hd_X6_nextSeed ⟨Nat.le_of_ble_eq_true rfl, Nat.le_of_ble_eq_true rfl⟩) fr hw hK hA rfl hl.1 rfl (Nat.le_of_ble_eq_true rfl) dX6_strew_89 ⟨Nat.zero_le _, Nat.zero_le _⟩) fr hw hA (fun H locs hw => ?_)
        refine lv_istore (lv' := [(4, .int x16), (7, .int x14), (6, .int x10), (0, .ref (o 0)), (1, .int v1), (3, .int v3), (5, .int v5)]) hx hb dX6_strew_92 hl (by decide) rfl (fun ls hl => ?_)
        refine lv_iload hx hb dX6_strew_94 (lv_at hl 0 rfl) ?_
        refine lv_bipush (v := 9) hx hb dX6_strew_96 (by decide) ?_
        obtain ⟨x18, g19, hf⟩ := bn1_e hf
        have fr := fr_X6_S o cA oX oP oD oR oT oB oC oG
        refine go_i (run_s (As := [.int x16, .int 9]) (rest := []) ⟨hx, hb, hml, hown, hts⟩ (k_X6_drawn l D cA x16 9 x18 g19 H.size) (va_cwS 2 hts gX6_strew_X6_drawn rfl rfl rfl hd_X6_drawn ⟨Nat.le_of_ble_eq_true rfl, Nat.le_of_ble_eq_true rfl⟩) fr hw hK hA rfl hl.1 rfl (Nat.le_of_ble_eq_true rfl) dX6_strew_98 ⟨Nat.zero_le _, Nat.zero_le _⟩) fr hw hA (fun H locs hw => ?_)
        refine lv_istore (lv' := [(8, .int x18), (4, .int x16), (7, .int x14), (6, .int x10), (0, .ref (o 0)), (1, .int v1), (3, .int v3), (5, .int v5)]) hx hb dX6_strew_101 hl (by decide) rfl (fun ls hl => ?_)
        refine lv_aload_n hx hb dX6_strew_103 rfl (lv_at hl 4 rfl) ?_
        refine lv_iload hx hb dX6_strew_104 (lv_at hl 3 rfl) ?_
        refine lv_iload hx hb dX6_strew_106 (lv_at hl 2 rfl) ?_
        refine lv_iload hx hb dX6_strew_108 (lv_at hl 0 rfl) ?_
        refine lv_bipush (v := 8) hx hb dX6_strew_110 (by decide) ?_
        refine lv_icmp_ne (tgt := 119) hx hb dX6_strew_112 (by decide) (fun c20 => ?_) (fun c20 => ?_)
        · have hf := if_f c20 hf
          refine lv_iload hx hb dX6_strew_119 (lv_at hl 0 rfl) ?_
          obtain ⟨x21, oR22, oT23, oB24, g25, hf⟩ := bn4_e hf
          have fr := fr_X6_X6_oX_oP_oD_oR_oT_oB_oC_oG o cA oX oP oD oR oT oB oC oG oX oP oD oR22 oT23 oB24 oC oG
          refine go_i (run_v (As := [.int x10, .int x14, .int x18]) (rest := []) ⟨hx, hb, hml, hown, hts⟩ (k_X6_comes l D cA tx ty o oX oP oD oR oT oB oC oG x10 x14 x18 x21 oR22 oT23 oB24 g25 H.size) (cwV 3 hts gX6_strew_X6_comes rfl rfl rfl hd_X6_comes ⟨Nat.le_of_ble_eq_true rfl, Nat.le_of_ble_eq_true rfl⟩) fr hw hK hA hZo hZ (ci := 6) rfl rfl rfl rfl hl.1 rfl (Nat.le_of_ble_eq_true rfl) dX6_strew_121 ⟨Nat.zero_le _, Nat.zero_le _⟩) fr hw hA (fun H locs hw => ?_)
          refine lv_if_eq (tgt := 130) hx hb dX6_strew_124 (by decide) (fun c26 => ?_) (fun c26 => ?_)
          · have hf := if_t c26 hf
            refine lv_iinc (v := v5 + 1) (lv' := [(5, .int (v5 + 1)), (8, .int x18), (4, .int x16), (7, .int x14), (6, .int x10), (0, .ref (o 0)), (1, .int v1), (3, .int v3)]) hx hb dX6_strew_130 hl (k := 7) rfl (by rfl) (by decide) rfl (fun ls hl => ?_)
            refine lv_goto (tgt := 39) hx hb dX6_strew_133 (by decide) ?_
            exact ih v3 x16 (v5 + 1) oR22 oT23 oB24 hf H locs ls hw (lv_sub hl [5, 6, 7, 2, 0] rfl)
          · have hf := if_f c26 hf
            refine lv_iinc (v := v3 + 1) (lv' := [(3, .int (v3 + 1)), (8, .int x18), (4, .int x16), (7, .int x14), (6, .int x10), (0, .ref (o 0)), (1, .int v1), (5, .int v5)]) hx hb dX6_strew_127 hl (k := 6) rfl (by rfl) (by decide) rfl (fun ls hl => ?_)
            refine lv_iinc (v := v5 + 1) (lv' := [(5, .int (v5 + 1)), (3, .int (v3 + 1)), (8, .int x18), (4, .int x16), (7, .int x14), (6, .int x10), (0, .ref (o 0)), (1, .int v1)]) hx hb dX6_strew_130 hl (k := 7) rfl (by rfl) (by decide) rfl (fun ls hl => ?_)
            refine lv_goto (tgt := 39) hx hb dX6_strew_133 (by decide) ?_
            exact ih (v3 + 1) x16 (v5 + 1) oR22 oT23 oB24 hf H locs ls hw (lv_sub hl [6, 7, 1, 3, 0] rfl)
        · have hf := if_t c20 hf
          refine lv_iconst (v := (-1)) hx hb dX6_strew_115 (by decide) ?_
          refine lv_goto (tgt := 121) hx hb dX6_strew_116 (by decide) ?_
          obtain ⟨x27, oR28, oT29, oB30, g31, hf⟩ := bn4_e hf
          have fr := fr_X6_X6_oX_oP_oD_oR_oT_oB_oC_oG o cA oX oP oD oR oT oB oC oG oX oP oD oR28 oT29 oB30 oC oG
          refine go_i (run_v (As := [.int x10, .int x14, .int ((-1))]) (rest := []) ⟨hx, hb, hml, hown, hts⟩ (k_X6_comes l D cA tx ty o oX oP oD oR oT oB oC oG x10 x14 ((-1)) x27 oR28 oT29 oB30 g31 H.size) (cwV 3 hts gX6_strew_X6_comes rfl rfl rfl hd_X6_comes ⟨Nat.le_of_ble_eq_true rfl, Nat.le_of_ble_eq_true rfl⟩) fr hw hK hA hZo hZ (ci := 6) rfl rfl rfl rfl hl.1 rfl (Nat.le_of_ble_eq_true rfl) dX6_strew_121 ⟨Nat.zero_le _, Nat.zero_le _⟩) fr hw hA (fun H locs hw => ?_)
          refine lv_if_eq (tgt := 130) hx hb dX6_strew_124 (by decide) (fun c32 => ?_) (fun c32 => ?_)
          · have hf := if_t c32 hf
            refine lv_iinc (v := v5 + 1) (lv' := [(5, .int (v5 + 1)), (8, .int x18), (4, .int x16), (7, .int x14), (6, .int x10), (0, .ref (o 0)), (1, .int v1), (3, .int v3)]) hx hb dX6_strew_130 hl (k := 7) rfl (by rfl) (by decide) rfl (fun ls hl => ?_)
            refine lv_goto (tgt := 39) hx hb dX6_strew_133 (by decide) ?_
            exact ih v3 x16 (v5 + 1) oR28 oT29 oB30 hf H locs ls hw (lv_sub hl [5, 6, 7, 2, 0] rfl)
          · have hf := if_f c32 hf
            refine lv_iinc (v := v3 + 1) (lv' := [(3, .int (v3 + 1)), (8, .int x18), (4, .int x16), (7, .int x14), (6, .int x10), (0, .ref (o 0)), (1, .int v1), (5, .int v5)]) hx hb dX6_strew_127 hl (k := 6) rfl (by rfl) (by decide) rfl (fun ls hl => ?_)
            refine lv_iinc (v := v5 + 1) (lv' := [(5, .int (v5 + 1)), (3, .int (v3 + 1)), (8, .int x18), (4, .int x16), (7, .int x14), (6, .int x10), (0, .ref (o 0)), (1, .int v1)]) hx hb dX6_strew_130 hl (k := 7) rfl (by rfl) (by decide) rfl (fun ls hl => ?_)
            refine lv_goto (tgt := 39) hx hb dX6_strew_133 (by decide) ?_
            exact ih (v3 + 1) x16 (v5 + 1) oR28 oT29 oB30 hf H locs ls hw (lv_sub hl [6, 7, 1, 3, 0] rfl)
  unfold f_X6_strew at hf
  obtain ⟨H, hH⟩ : ∃ H, H = s.heap := ⟨_, rfl⟩
  obtain ⟨locs, hlc⟩ : ∃ locs : List Loc, locs = [] := ⟨_, rfl⟩
  have hw : Wd D A s.heap H locs (wX6 o cA oX oP oD oR oT oB oC oG) := by rw [hH, hlc]; exact hw
  have goal : W p l e rmX6_strew s m ([.ref (o 0), .int a1, .int a2] : List Value).toArray below meth c H locs 0 0 Q (F0 m 0 ls []) := by
    clear hH hlc
    refine lv_aload_n hx hb dX6_strew_0 rfl (lv_at hl 0 rfl) ?_
    refine w_get hx hb hts hi6 hown hK hw 0 rfl rfl 1 (by decide) q0 rfl (v := .ref (o 7)) rfl dX6_strew_1 ?_
    obtain ⟨x1, g2, hf⟩ := bn1_e hf
    have fr := fr_X6_X0_oB o cA oX oP oD oR oT oB oC oG oB
    refine go_i (run_v (As := []) (rest := []) ⟨hx, hb, hml, hown, hts⟩ (k_X0_isThere l D cA tx ty o 7 oB x1 g2 H.size) (cwV 0 hts gX6_strew_X0_isThere rfl rfl rfl hd_X0_isThere ⟨Nat.le_of_ble_eq_true rfl, Nat.le_of_ble_eq_true rfl⟩) fr hw hK hA hZo hZ (ci := 0) rfl rfl rfl rfl hl.1 rfl (Nat.le_of_ble_eq_true rfl) dX6_strew_4 ⟨Nat.zero_le _, Nat.zero_le _⟩) fr hw hA (fun H locs hw => ?_)
    refine lv_if_ne (tgt := 13) hx hb dX6_strew_7 (by decide) (fun c3 => ?_) (fun c3 => ?_)
    · have hf := if_f c3 hf
      refine lv_iload_n hx hb dX6_strew_13 rfl (lv_at hl 1 rfl) ?_
      refine lv_iconst (v := 1) hx hb dX6_strew_14 (by decide) ?_
      refine lv_icmp_lt (tgt := 28) hx hb dX6_strew_15 (by decide) (fun c4 => ?_) (fun c4 => ?_)
      · have hf := if_t c4 hf
        refine lv_bipush (v := (-102)) hx hb dX6_strew_28 (by decide) ?_
        obtain ⟨e0_, e1_, e2_, e3_⟩ := sm4 hf
        exact hret _ _ _ _ _ (by rw [← e1_, ← e2_, ← e3_]; exact hw) e0_ (Or.inl rfl) dX6_strew_30
      · have hf := if_f c4 hf
        refine lv_iload_n hx hb dX6_strew_18 rfl (lv_at hl 1 rfl) ?_
        refine lv_bipush (v := 14) hx hb dX6_strew_19 (by decide) ?_
        refine lv_icmp_gt (tgt := 28) hx hb dX6_strew_21 (by decide) (fun c5 => ?_) (fun c5 => ?_)
        · have hf := if_t c5 hf
          refine lv_bipush (v := (-102)) hx hb dX6_strew_28 (by decide) ?_
          obtain ⟨e0_, e1_, e2_, e3_⟩ := sm4 hf
          exact hret _ _ _ _ _ (by rw [← e1_, ← e2_, ← e3_]; exact hw) e0_ (Or.inl rfl) dX6_strew_30
        · have hf := if_f c5 hf
          refine lv_iload_n hx hb dX6_strew_24 rfl (lv_at hl 2 rfl) ?_
          refine lv_if_ge (tgt := 31) hx hb dX6_strew_25 (by decide) (fun c6 => ?_) (fun c6 => ?_)
          · have hf := if_t c6 hf
            refine lv_iconst (v := 0) hx hb dX6_strew_31 (by decide) ?_
            refine lv_istore_n (lv' := [(3, .int 0), (0, .ref (o 0)), (1, .int a1), (2, .int a2)]) hx hb dX6_strew_32 rfl hl (by decide) rfl (fun ls hl => ?_)
            refine lv_iload_n hx hb dX6_strew_33 rfl (lv_at hl 3 rfl) ?_
            refine lv_istore (lv' := [(4, .int a2), (3, .int 0), (0, .ref (o 0)), (1, .int a1), (2, .int a2)]) hx hb dX6_strew_34 hl (by decide) rfl (fun ls hl => ?_)
            refine lv_iconst (v := 0) hx hb dX6_strew_36 (by decide) ?_
            refine lv_istore (lv' := [(5, .int 0), (4, .int a2), (3, .int 0), (0, .ref (o 0)), (1, .int a1), (2, .int a2)]) hx hb dX6_strew_37 hl (by decide) rfl (fun ls hl => ?_)
            exact h_L39 a1 _ 0 a2 0 oR oT oB hf H locs ls hw (lv_sub hl [3, 4, 2, 1, 0] rfl)
          · have hf := if_f c6 hf
            refine lv_bipush (v := (-102)) hx hb dX6_strew_28 (by decide) ?_
            obtain ⟨e0_, e1_, e2_, e3_⟩ := sm4 hf
            exact hret _ _ _ _ _ (by rw [← e1_, ← e2_, ← e3_]; exact hw) e0_ (Or.inl rfl) dX6_strew_30
    · have hf := if_t c3 hf
      refine lv_bipush (v := (-103)) hx hb dX6_strew_10 (by decide) ?_
      obtain ⟨e0_, e1_, e2_, e3_⟩ := sm4 hf
      exact hret _ _ _ _ _ (by rw [← e1_, ← e2_, ← e3_]; exact hw) e0_ (Or.inl rfl) dX6_strew_12
  rw [hH, hlc] at goal
  exact goal
abbrev rmX6_told : Room := { frames := 1, cells := 0, slots := 0, locals := 22 }
theorem hd_X6_told : yX6_told.cls = RX6 ∧ yX6_told.cls ≠ "java/lang/invoke/MethodHandle" ∧ yX6_told.cls ≠ "java/lang/invoke/VarHandle" ∧ (parseMethodDescriptor yX6_told.desc).map (fun d => d.parameters.length) = some 2 := by decide +kernel
set_option maxHeartbeats 4000000 in
set_option maxRecDepth 100000 in
theorem k_X6_told (l : Launch) (D : va_G) (cA : ClassId) (tx ty : Nat) (o : Nat → Nat) (oX : St) (oP : St) (oD : St) (oR : St) (oT : St) (oB : St) (oC : St) (oG : St) (a1 : Int32) (a2 : Int32) (r : Int32) (hf : f_X6_told oR oB a1 a2 = some (r)) : Mi l yX6_told wsX6_told rmX6_told D cA (z_X tx ty) [.ref (o 0), .int a1, .int a2] (wX6 o cA oX oP oD oR oT oB oC oG) r (wX6 o cA oX oP oD oR oT oB oC oG) := by
  refine Mi.of (cc := cX6_told) (maxL := 3) (ret := (some .int)) (plainFor_of_name (by decide)) rfl (Nat.le_of_ble_eq_true rfl) (Or.inl rfl) ?_
  intro p e s m below meth c A Q hx hb hml hown hts hK hA hZ hret ls hl hw
  replace hown : s.vm.findClass RX6 = some m.cls := hown
  have hl : lv_has ls 3 [(0, .ref (o 0)), (1, .int a1), (2, .int a2)] := hl
  have hZo := z_X_ok tx ty
  have hi0 : ∀ w ∈ wsX00, w ∈ wsX6_told := fun w h => List.mem_cons_of_mem _ (List.mem_append_left _ (List.mem_append_right _ h))
  have hi6 : ∀ w ∈ wsX60, w ∈ wsX6_told := fun w h => List.mem_cons_of_mem _ (List.mem_append_left _ (List.mem_append_left _ (List.mem_append_right _ h)))
  have q0 := hts (.fieldLink RX6 19 "ArcRings" "board" "LArcRings$Board;") (by decide +kernel)
  have q1 := hts (.fieldLink RX6 139 "ArcRings$Board" "xs" "[I") (by decide +kernel)
  have q2 := hts (.fieldLink RX6 142 "ArcRings$Board" "ys" "[I") (by decide +kernel)
  have q3 := hts (.fieldLink RX6 145 "ArcRings$Board" "turns" "[I") (by decide +kernel)
  have q4 := hts (.fieldLink RX6 53 "ArcRings" "kept" "LArcRings$Rings;") (by decide +kernel)
  unfold f_X6_told at hf
  obtain ⟨H, hH⟩ : ∃ H, H = s.heap := ⟨_, rfl⟩
  obtain ⟨locs, hlc⟩ : ∃ locs : List Loc, locs = [] := ⟨_, rfl⟩
  have hw : Wd D A s.heap H locs (wX6 o cA oX oP oD oR oT oB oC oG) := by rw [hH, hlc]; exact hw
  have goal : W p l e rmX6_told s m ([.ref (o 0), .int a1, .int a2] : List Value).toArray below meth c H locs 0 0 Q (F0 m 0 ls []) := by
    clear hH hlc
    refine lv_aload_n hx hb dX6_told_0 rfl (lv_at hl 0 rfl) ?_
    refine w_get hx hb hts hi6 hown hK hw 0 rfl rfl 1 (by decide) q0 rfl (v := .ref (o 7)) rfl dX6_told_1 ?_
    refine lv_iload_n hx hb dX6_told_4 rfl (lv_at hl 1 rfl) ?_
    obtain ⟨x1, g2, hf⟩ := bn1_e hf
    have fr := fr_X6_X0_oB o cA oX oP oD oR oT oB oC oG oB
    refine go_i (run_v (As := [.int a1]) (rest := []) ⟨hx, hb, hml, hown, hts⟩ (k_X0_has l D cA tx ty o 7 oB a1 x1 g2 H.size) (cwV 1 hts gX6_told_X0_has rfl rfl rfl hd_X0_has ⟨Nat.le_of_ble_eq_true rfl, Nat.le_of_ble_eq_true rfl⟩) fr hw hK hA hZo hZ (ci := 0) rfl rfl rfl rfl hl.1 rfl (Nat.le_of_ble_eq_true rfl) dX6_told_5 ⟨Nat.zero_le _, Nat.zero_le _⟩) fr hw hA (fun H locs hw => ?_)
    refine lv_if_ne (tgt := 14) hx hb dX6_told_8 (by decide) (fun c3 => ?_) (fun c3 => ?_)
    · have hf := if_f c3 hf
      refine lv_iload_n hx hb dX6_told_14 rfl (lv_at hl 2 rfl) ?_
      by_cases c4 : a2 = 0
      · have hf := if_t c4 hf
        refine lv_tableIn (tgt := 44) hx hb dX6_told_15 (by rw [c4]; decide) (by rw [c4]; decide) (by rw [c4]; rfl) (by decide) ?_
        refine lv_aload_n hx hb dX6_told_44 rfl (lv_at hl 0 rfl) ?_
        refine w_get hx hb hts hi6 hown hK hw 0 rfl rfl 1 (by decide) q0 rfl (v := .ref (o 7)) rfl dX6_told_45 ?_
        refine w_get hx hb hts hi0 hown hK hw 14 rfl rfl 8 (by decide) q1 rfl (v := .ref (o 8)) rfl dX6_told_48 ?_
        refine lv_iload_n hx hb dX6_told_51 rfl (lv_at hl 1 rfl) ?_
        obtain ⟨x5, g6, hf⟩ := bn1_e hf
        refine w_ald hx hb hK hw 15 rfl g6 dX6_told_52 ?_
        have e0_ := sm1 hf
        exact hret _ _ _ _ _ hw e0_ (Or.inl rfl) dX6_told_53
      have hf := if_f c4 hf
      by_cases c7 : a2 = 1
      · have hf := if_t c7 hf
        refine lv_tableIn (tgt := 54) hx hb dX6_told_15 (by rw [c7]; decide) (by rw [c7]; decide) (by rw [c7]; rfl) (by decide) ?_
        refine lv_aload_n hx hb dX6_told_54 rfl (lv_at hl 0 rfl) ?_
        refine w_get hx hb hts hi6 hown hK hw 0 rfl rfl 1 (by decide) q0 rfl (v := .ref (o 7)) rfl dX6_told_55 ?_
        refine w_get hx hb hts hi0 hown hK hw 14 rfl rfl 9 (by decide) q2 rfl (v := .ref (o 9)) rfl dX6_told_58 ?_
        refine lv_iload_n hx hb dX6_told_61 rfl (lv_at hl 1 rfl) ?_
        obtain ⟨x8, g9, hf⟩ := bn1_e hf
        refine w_ald hx hb hK hw 16 rfl g9 dX6_told_62 ?_
        have e0_ := sm1 hf
        exact hret _ _ _ _ _ hw e0_ (Or.inl rfl) dX6_told_63
      have hf := if_f c7 hf
      by_cases c10 : a2 = 2
      · have hf := if_t c10 hf
        refine lv_tableIn (tgt := 64) hx hb dX6_told_15 (by rw [c10]; decide) (by rw [c10]; decide) (by rw [c10]; rfl) (by decide) ?_
        refine lv_aload_n hx hb dX6_told_64 rfl (lv_at hl 0 rfl) ?_
        refine w_get hx hb hts hi6 hown hK hw 0 rfl rfl 1 (by decide) q0 rfl (v := .ref (o 7)) rfl dX6_told_65 ?_
        refine w_get hx hb hts hi0 hown hK hw 14 rfl rfl 10 (by decide) q3 rfl (v := .ref (o 10)) rfl dX6_told_68 ?_
        refine lv_iload_n hx hb dX6_told_71 rfl (lv_at hl 1 rfl) ?_
        obtain ⟨x11, g12, hf⟩ := bn1_e hf
        refine w_ald hx hb hK hw 17 rfl g12 dX6_told_72 ?_
        have e0_ := sm1 hf
        exact hret _ _ _ _ _ hw e0_ (Or.inl rfl) dX6_told_73
      have hf := if_f c10 hf
      by_cases c13 : a2 = 3
      · have hf := if_t c13 hf
        refine lv_tableIn (tgt := 74) hx hb dX6_told_15 (by rw [c13]; decide) (by rw [c13]; decide) (by rw [c13]; rfl) (by decide) ?_
        refine lv_aload_n hx hb dX6_told_74 rfl (lv_at hl 0 rfl) ?_
        refine w_get hx hb hts hi6 hown hK hw 0 rfl rfl 5 (by decide) q4 rfl (v := .ref (o 17)) rfl dX6_told_75 ?_
        refine lv_iload_n hx hb dX6_told_78 rfl (lv_at hl 1 rfl) ?_
        obtain ⟨x14, g15, hf⟩ := bn1_e hf
        have fr := fr_X6_X3_oR_oT_oB_oC_oG o cA oX oP oD oR oT oB oC oG oR oT oB oC oG
        refine go_i (run_v (As := [.int a1]) (rest := []) ⟨hx, hb, hml, hown, hts⟩ (k_X3_ownerOf l D cA tx ty o oR oT oB oC oG a1 x14 g15 H.size) (cwV 1 hts gX6_told_X3_ownerOf rfl rfl rfl hd_X3_ownerOf ⟨Nat.le_of_ble_eq_true rfl, Nat.le_of_ble_eq_true rfl⟩) fr hw hK hA hZo hZ (ci := 3) rfl rfl rfl rfl hl.1 rfl (Nat.le_of_ble_eq_true rfl) dX6_told_79 ⟨Nat.zero_le _, Nat.zero_le _⟩) fr hw hA (fun H locs hw => ?_)
        have e0_ := sm1 hf
        exact hret _ _ _ _ _ hw e0_ (Or.inl rfl) dX6_told_82
      have hf := if_f c13 hf
      refine lv_tableOut (tgt := 83) hx hb dX6_told_15 (w_out (n := 4) (by decide) (fun k hk => ?_)) (by decide) ?_
      · match k, hk with
        | 0, _ => exact c4
        | 1, _ => exact c7
        | 2, _ => exact c10
        | 3, _ => exact c13
        | k + 4, hk => omega
      refine lv_bipush (v := (-102)) hx hb dX6_told_83 (by decide) ?_
      have e0_ := sm1 hf
      exact hret _ _ _ _ _ hw e0_ (Or.inl rfl) dX6_told_85
    · have hf := if_t c3 hf
      refine lv_bipush (v := (-101)) hx hb dX6_told_11 (by decide) ?_
      have e0_ := sm1 hf
      exact hret _ _ _ _ _ hw e0_ (Or.inl rfl) dX6_told_13
  rw [hH, hlc] at goal
  exact goal
abbrev rmX6_about : Room := { frames := 1, cells := 0, slots := 0, locals := 20 }
theorem hd_X6_about : yX6_about.cls = RX6 ∧ yX6_about.cls ≠ "java/lang/invoke/MethodHandle" ∧ yX6_about.cls ≠ "java/lang/invoke/VarHandle" ∧ (parseMethodDescriptor yX6_about.desc).map (fun d => d.parameters.length) = some 1 := by decide +kernel
set_option maxHeartbeats 4000000 in
set_option maxRecDepth 100000 in
theorem k_X6_about (l : Launch) (D : va_G) (cA : ClassId) (tx ty : Nat) (o : Nat → Nat) (oX : St) (oP : St) (oD : St) (oR : St) (oT : St) (oB : St) (oC : St) (oG : St) (a1 : Int32) (r : Int32) (hf : f_X6_about oB a1 = some (r)) : Mi l yX6_about wsX6_about rmX6_about D cA (z_X tx ty) [.ref (o 0), .int a1] (wX6 o cA oX oP oD oR oT oB oC oG) r (wX6 o cA oX oP oD oR oT oB oC oG) := by
  refine Mi.of (cc := cX6_about) (maxL := 2) (ret := (some .int)) (plainFor_of_name (by decide)) rfl (Nat.le_of_ble_eq_true rfl) (Or.inl rfl) ?_
  intro p e s m below meth c A Q hx hb hml hown hts hK hA hZ hret ls hl hw
  replace hown : s.vm.findClass RX6 = some m.cls := hown
  have hl : lv_has ls 2 [(0, .ref (o 0)), (1, .int a1)] := hl
  have hZo := z_X_ok tx ty
  have hi0 : ∀ w ∈ wsX00, w ∈ wsX6_about := fun w h => List.mem_cons_of_mem _ (List.mem_append_right _ h)
  have hi6 : ∀ w ∈ wsX60, w ∈ wsX6_about := fun w h => List.mem_cons_of_mem _ (List.mem_append_left _ (List.mem_append_right _ h))
  have q0 := hts (.fieldLink RX6 19 "ArcRings" "board" "LArcRings$Board;") (by decide +kernel)
  have q1 := hts (.fieldLink RX6 129 "ArcRings$Board" "width" "I") (by decide +kernel)
  have q2 := hts (.fieldLink RX6 136 "ArcRings$Board" "height" "I") (by decide +kernel)
  have q3 := hts (.fieldLink RX6 85 "ArcRings$Board" "dots" "I") (by decide +kernel)
  have q4 := hts (.fieldLink RX6 151 "ArcRings$Board" "low" "I") (by decide +kernel)
  have q5 := hts (.fieldLink RX6 154 "ArcRings$Board" "high" "I") (by decide +kernel)
  have q6 := hts (.fieldLink RX6 157 "ArcRings$Board" "slack" "I") (by decide +kernel)
  have q7 := hts (.fieldLink RX6 160 "ArcRings$Board" "need" "I") (by decide +kernel)
  have q8 := hts (.fieldLink RX6 163 "ArcRings$Board" "round" "I") (by decide +kernel)
  unfold f_X6_about at hf
  obtain ⟨H, hH⟩ : ∃ H, H = s.heap := ⟨_, rfl⟩
  obtain ⟨locs, hlc⟩ : ∃ locs : List Loc, locs = [] := ⟨_, rfl⟩
  have hw : Wd D A s.heap H locs (wX6 o cA oX oP oD oR oT oB oC oG) := by rw [hH, hlc]; exact hw
  have goal : W p l e rmX6_about s m ([.ref (o 0), .int a1] : List Value).toArray below meth c H locs 0 0 Q (F0 m 0 ls []) := by
    clear hH hlc
    refine lv_iload_n hx hb dX6_about_0 rfl (lv_at hl 1 rfl) ?_
    refine lv_if_lt (tgt := 10) hx hb dX6_about_1 (by decide) (fun c1 => ?_) (fun c1 => ?_)
    · have hf := if_t c1 hf
      refine lv_bipush (v := (-102)) hx hb dX6_about_10 (by decide) ?_
      have e0_ := sm1 hf
      exact hret _ _ _ _ _ hw e0_ (Or.inl rfl) dX6_about_12
    · have hf := if_f c1 hf
      refine lv_iload_n hx hb dX6_about_4 rfl (lv_at hl 1 rfl) ?_
      refine lv_bipush (v := 7) hx hb dX6_about_5 (by decide) ?_
      refine lv_icmp_le (tgt := 13) hx hb dX6_about_7 (by decide) (fun c2 => ?_) (fun c2 => ?_)
      · have hf := if_t c2 hf
        refine lv_aload_n hx hb dX6_about_13 rfl (lv_at hl 0 rfl) ?_
        refine w_get hx hb hts hi6 hown hK hw 0 rfl rfl 1 (by decide) q0 rfl (v := .ref (o 7)) rfl dX6_about_14 ?_
        obtain ⟨x3, g4, hf⟩ := bn1_e hf
        have fr := fr_X6_X0_oB o cA oX oP oD oR oT oB oC oG oB
        refine go_i (run_v (As := []) (rest := []) ⟨hx, hb, hml, hown, hts⟩ (k_X0_isThere l D cA tx ty o 7 oB x3 g4 H.size) (cwV 0 hts gX6_about_X0_isThere rfl rfl rfl hd_X0_isThere ⟨Nat.le_of_ble_eq_true rfl, Nat.le_of_ble_eq_true rfl⟩) fr hw hK hA hZo hZ (ci := 0) rfl rfl rfl rfl hl.1 rfl (Nat.le_of_ble_eq_true rfl) dX6_about_17 ⟨Nat.zero_le _, Nat.zero_le _⟩) fr hw hA (fun H locs hw => ?_)
        refine lv_if_ne (tgt := 26) hx hb dX6_about_20 (by decide) (fun c5 => ?_) (fun c5 => ?_)
        · have hf := if_f c5 hf
          refine lv_iload_n hx hb dX6_about_26 rfl (lv_at hl 1 rfl) ?_
          by_cases c6 : a1 = 0
          · have hf := if_t c6 hf
            refine lv_tableIn (tgt := 68) hx hb dX6_about_27 (by rw [c6]; decide) (by rw [c6]; decide) (by rw [c6]; rfl) (by decide) ?_
            refine lv_aload_n hx hb dX6_about_68 rfl (lv_at hl 0 rfl) ?_
            refine w_get hx hb hts hi6 hown hK hw 0 rfl rfl 1 (by decide) q0 rfl (v := .ref (o 7)) rfl dX6_about_69 ?_
            refine w_get hx hb hts hi0 hown hK hw 14 rfl rfl 0 (by decide) q1 rfl (v := .int (oB.1 0)) rfl dX6_about_72 ?_
            have e0_ := sm1 hf
            exact hret _ _ _ _ _ hw e0_ (Or.inl rfl) dX6_about_75
          have hf := if_f c6 hf
          by_cases c7 : a1 = 1
          · have hf := if_t c7 hf
            refine lv_tableIn (tgt := 76) hx hb dX6_about_27 (by rw [c7]; decide) (by rw [c7]; decide) (by rw [c7]; rfl) (by decide) ?_
            refine lv_aload_n hx hb dX6_about_76 rfl (lv_at hl 0 rfl) ?_
            refine w_get hx hb hts hi6 hown hK hw 0 rfl rfl 1 (by decide) q0 rfl (v := .ref (o 7)) rfl dX6_about_77 ?_
            refine w_get hx hb hts hi0 hown hK hw 14 rfl rfl 1 (by decide) q2 rfl (v := .int (oB.1 1)) rfl dX6_about_80 ?_
            have e0_ := sm1 hf
            exact hret _ _ _ _ _ hw e0_ (Or.inl rfl) dX6_about_83
          have hf := if_f c7 hf
          by_cases c8 : a1 = 2
          · have hf := if_t c8 hf
            refine lv_tableIn (tgt := 84) hx hb dX6_about_27 (by rw [c8]; decide) (by rw [c8]; decide) (by rw [c8]; rfl) (by decide) ?_
            refine lv_aload_n hx hb dX6_about_84 rfl (lv_at hl 0 rfl) ?_
            refine w_get hx hb hts hi6 hown hK hw 0 rfl rfl 1 (by decide) q0 rfl (v := .ref (o 7)) rfl dX6_about_85 ?_
            refine w_get hx hb hts hi0 hown hK hw 14 rfl rfl 2 (by decide) q3 rfl (v := .int (oB.1 2)) rfl dX6_about_88 ?_
            have e0_ := sm1 hf
            exact hret _ _ _ _ _ hw e0_ (Or.inl rfl) dX6_about_91
          have hf := if_f c8 hf
          by_cases c9 : a1 = 3
          · have hf := if_t c9 hf
            refine lv_tableIn (tgt := 92) hx hb dX6_about_27 (by rw [c9]; decide) (by rw [c9]; decide) (by rw [c9]; rfl) (by decide) ?_
            refine lv_aload_n hx hb dX6_about_92 rfl (lv_at hl 0 rfl) ?_
            refine w_get hx hb hts hi6 hown hK hw 0 rfl rfl 1 (by decide) q0 rfl (v := .ref (o 7)) rfl dX6_about_93 ?_
            refine w_get hx hb hts hi0 hown hK hw 14 rfl rfl 3 (by decide) q4 rfl (v := .int (oB.1 3)) rfl dX6_about_96 ?_
            have e0_ := sm1 hf
            exact hret _ _ _ _ _ hw e0_ (Or.inl rfl) dX6_about_99
          have hf := if_f c9 hf
          by_cases c10 : a1 = 4
          · have hf := if_t c10 hf
            refine lv_tableIn (tgt := 100) hx hb dX6_about_27 (by rw [c10]; decide) (by rw [c10]; decide) (by rw [c10]; rfl) (by decide) ?_
            refine lv_aload_n hx hb dX6_about_100 rfl (lv_at hl 0 rfl) ?_
            refine w_get hx hb hts hi6 hown hK hw 0 rfl rfl 1 (by decide) q0 rfl (v := .ref (o 7)) rfl dX6_about_101 ?_
            refine w_get hx hb hts hi0 hown hK hw 14 rfl rfl 4 (by decide) q5 rfl (v := .int (oB.1 4)) rfl dX6_about_104 ?_
            have e0_ := sm1 hf
            exact hret _ _ _ _ _ hw e0_ (Or.inl rfl) dX6_about_107
          have hf := if_f c10 hf
          by_cases c11 : a1 = 5
          · have hf := if_t c11 hf
            refine lv_tableIn (tgt := 108) hx hb dX6_about_27 (by rw [c11]; decide) (by rw [c11]; decide) (by rw [c11]; rfl) (by decide) ?_
            refine lv_aload_n hx hb dX6_about_108 rfl (lv_at hl 0 rfl) ?_
            refine w_get hx hb hts hi6 hown hK hw 0 rfl rfl 1 (by decide) q0 rfl (v := .ref (o 7)) rfl dX6_about_109 ?_
            refine w_get hx hb hts hi0 hown hK hw 14 rfl rfl 5 (by decide) q6 rfl (v := .int (oB.1 5)) rfl dX6_about_112 ?_
            have e0_ := sm1 hf
            exact hret _ _ _ _ _ hw e0_ (Or.inl rfl) dX6_about_115
          have hf := if_f c11 hf
          by_cases c12 : a1 = 6
          · have hf := if_t c12 hf
            refine lv_tableIn (tgt := 116) hx hb dX6_about_27 (by rw [c12]; decide) (by rw [c12]; decide) (by rw [c12]; rfl) (by decide) ?_
            refine lv_aload_n hx hb dX6_about_116 rfl (lv_at hl 0 rfl) ?_
            refine w_get hx hb hts hi6 hown hK hw 0 rfl rfl 1 (by decide) q0 rfl (v := .ref (o 7)) rfl dX6_about_117 ?_
            refine w_get hx hb hts hi0 hown hK hw 14 rfl rfl 6 (by decide) q7 rfl (v := .int (oB.1 6)) rfl dX6_about_120 ?_
            have e0_ := sm1 hf
            exact hret _ _ _ _ _ hw e0_ (Or.inl rfl) dX6_about_123
          have hf := if_f c12 hf
          refine lv_tableOut (tgt := 124) hx hb dX6_about_27 (w_out (n := 7) (by decide) (fun k hk => ?_)) (by decide) ?_
          · match k, hk with
            | 0, _ => exact c6
            | 1, _ => exact c7
            | 2, _ => exact c8
            | 3, _ => exact c9
            | 4, _ => exact c10
            | 5, _ => exact c11
            | 6, _ => exact c12
            | k + 7, hk => omega
          refine lv_aload_n hx hb dX6_about_124 rfl (lv_at hl 0 rfl) ?_
          refine w_get hx hb hts hi6 hown hK hw 0 rfl rfl 1 (by decide) q0 rfl (v := .ref (o 7)) rfl dX6_about_125 ?_
          refine w_get hx hb hts hi0 hown hK hw 14 rfl rfl 7 (by decide) q8 rfl (v := .int (oB.1 7)) rfl dX6_about_128 ?_
          have e0_ := sm1 hf
          exact hret _ _ _ _ _ hw e0_ (Or.inl rfl) dX6_about_131
        · have hf := if_t c5 hf
          refine lv_bipush (v := (-103)) hx hb dX6_about_23 (by decide) ?_
          have e0_ := sm1 hf
          exact hret _ _ _ _ _ hw e0_ (Or.inl rfl) dX6_about_25
      · have hf := if_f c2 hf
        refine lv_bipush (v := (-102)) hx hb dX6_about_10 (by decide) ?_
        have e0_ := sm1 hf
        exact hret _ _ _ _ _ hw e0_ (Or.inl rfl) dX6_about_12
  rw [hH, hlc] at goal
  exact goal
abbrev rmX6_bound : Room := { frames := 2, cells := 0, slots := 0, locals := 41 }
theorem hd_X6_bound : yX6_bound.cls = RX6 ∧ yX6_bound.cls ≠ "java/lang/invoke/MethodHandle" ∧ yX6_bound.cls ≠ "java/lang/invoke/VarHandle" ∧ (parseMethodDescriptor yX6_bound.desc).map (fun d => d.parameters.length) = some 2 := by decide +kernel
set_option maxHeartbeats 4000000 in
set_option maxRecDepth 100000 in
theorem k_X6_bound (l : Launch) (D : va_G) (cA : ClassId) (tx ty : Nat) (o : Nat → Nat) (oX : St) (oP : St) (oD : St) (oR : St) (oT : St) (oB : St) (oC : St) (oG : St) (a1 : Int32) (a2 : Int32) (r : Int32) (oR' : St) (oT' : St) (oB' : St) (hf : f_X6_bound oR oT oB a1 a2 = some (r, oR', oT', oB')) : Mi l yX6_bound wsX6_bound rmX6_bound D cA (z_X tx ty) [.ref (o 0), .int a1, .int a2] (wX6 o cA oX oP oD oR oT oB oC oG) r (wX6 o cA oX oP oD oR' oT' oB' oC oG) := by
  refine Mi.of (cc := cX6_bound) (maxL := 4) (ret := (some .int)) (plainFor_of_name (by decide)) rfl (Nat.le_of_ble_eq_true rfl) (Or.inl rfl) ?_
  intro p e s m below meth c A Q hx hb hml hown hts hK hA hZ hret ls hl hw
  replace hown : s.vm.findClass RX6 = some m.cls := hown
  have hl : lv_has ls 4 [(0, .ref (o 0)), (1, .int a1), (2, .int a2)] := hl
  have hZo := z_X_ok tx ty
  have hi6 : ∀ w ∈ wsX60, w ∈ wsX6_bound := fun w h => List.mem_cons_of_mem _ (List.mem_append_left _ (List.mem_append_left _ (List.mem_append_left _ (List.mem_append_right _ h))))
  have q0 := hts (.fieldLink RX6 19 "ArcRings" "board" "LArcRings$Board;") (by decide +kernel)
  unfold f_X6_bound at hf
  obtain ⟨H, hH⟩ : ∃ H, H = s.heap := ⟨_, rfl⟩
  obtain ⟨locs, hlc⟩ : ∃ locs : List Loc, locs = [] := ⟨_, rfl⟩
  have hw : Wd D A s.heap H locs (wX6 o cA oX oP oD oR oT oB oC oG) := by rw [hH, hlc]; exact hw
  have goal : W p l e rmX6_bound s m ([.ref (o 0), .int a1, .int a2] : List Value).toArray below meth c H locs 0 0 Q (F0 m 0 ls []) := by
    clear hH hlc
    refine lv_aload_n hx hb dX6_bound_0 rfl (lv_at hl 0 rfl) ?_
    refine w_get hx hb hts hi6 hown hK hw 0 rfl rfl 1 (by decide) q0 rfl (v := .ref (o 7)) rfl dX6_bound_1 ?_
    obtain ⟨x1, g2, hf⟩ := bn1_e hf
    have fr := fr_X6_X0_oB o cA oX oP oD oR oT oB oC oG oB
    refine go_i (run_v (As := []) (rest := []) ⟨hx, hb, hml, hown, hts⟩ (k_X0_isThere l D cA tx ty o 7 oB x1 g2 H.size) (cwV 0 hts gX6_bound_X0_isThere rfl rfl rfl hd_X0_isThere ⟨Nat.le_of_ble_eq_true rfl, Nat.le_of_ble_eq_true rfl⟩) fr hw hK hA hZo hZ (ci := 0) rfl rfl rfl rfl hl.1 rfl (Nat.le_of_ble_eq_true rfl) dX6_bound_4 ⟨Nat.zero_le _, Nat.zero_le _⟩) fr hw hA (fun H locs hw => ?_)
    refine lv_if_ne (tgt := 13) hx hb dX6_bound_7 (by decide) (fun c3 => ?_) (fun c3 => ?_)
    · have hf := if_f c3 hf
      refine lv_aload_n hx hb dX6_bound_13 rfl (lv_at hl 0 rfl) ?_
      refine w_get hx hb hts hi6 hown hK hw 0 rfl rfl 1 (by decide) q0 rfl (v := .ref (o 7)) rfl dX6_bound_14 ?_
      refine lv_iload_n hx hb dX6_bound_17 rfl (lv_at hl 1 rfl) ?_
      refine lv_iload_n hx hb dX6_bound_18 rfl (lv_at hl 2 rfl) ?_
      obtain ⟨x4, g5, hf⟩ := bn1_e hf
      have fr := fr_X6_X0_oB o cA oX oP oD oR oT oB oC oG oB
      refine go_i (run_v (As := [.int a1, .int a2]) (rest := []) ⟨hx, hb, hml, hown, hts⟩ (k_X0_allows l D cA tx ty o 7 oB a1 a2 x4 g5 H.size) (cwV 2 hts gX6_bound_X0_allows rfl rfl rfl hd_X0_allows ⟨Nat.le_of_ble_eq_true rfl, Nat.le_of_ble_eq_true rfl⟩) fr hw hK hA hZo hZ (ci := 0) rfl rfl rfl rfl hl.1 rfl (Nat.le_of_ble_eq_true rfl) dX6_bound_19 ⟨Nat.zero_le _, Nat.zero_le _⟩) fr hw hA (fun H locs hw => ?_)
      refine lv_if_ne (tgt := 28) hx hb dX6_bound_22 (by decide) (fun c6 => ?_) (fun c6 => ?_)
      · have hf := if_f c6 hf
        refine lv_aload_n hx hb dX6_bound_28 rfl (lv_at hl 0 rfl) ?_
        refine lv_iload_n hx hb dX6_bound_29 rfl (lv_at hl 1 rfl) ?_
        refine lv_iconst (v := 3) hx hb dX6_bound_30 (by decide) ?_
        refine lv_iadd hx hb dX6_bound_31 ?_
        obtain ⟨x7, g8, hf⟩ := bn1_e hf
        have fr := fr_X6_X6_oX_oP_oD_oR_oT_oB_oC_oG o cA oX oP oD oR oT oB oC oG oX oP oD oR oT oB oC oG
        refine go_i (run_v (As := [.int (a1 + 3)]) (rest := []) ⟨hx, hb, hml, hown, hts⟩ (k_X6_about l D cA tx ty o oX oP oD oR oT oB oC oG (a1 + 3) x7 g8 H.size) (cwV 1 hts gX6_bound_X6_about rfl rfl rfl hd_X6_about ⟨Nat.le_of_ble_eq_true rfl, Nat.le_of_ble_eq_true rfl⟩) fr hw hK hA hZo hZ (ci := 6) rfl rfl rfl rfl hl.1 rfl (Nat.le_of_ble_eq_true rfl) dX6_bound_32 ⟨Nat.zero_le _, Nat.zero_le _⟩) fr hw hA (fun H locs hw => ?_)
        refine lv_istore_n (lv' := [(3, .int x7), (0, .ref (o 0)), (1, .int a1), (2, .int a2)]) hx hb dX6_bound_35 rfl hl (by decide) rfl (fun ls hl => ?_)
        refine lv_aload_n hx hb dX6_bound_36 rfl (lv_at hl 1 rfl) ?_
        refine w_get hx hb hts hi6 hown hK hw 0 rfl rfl 1 (by decide) q0 rfl (v := .ref (o 7)) rfl dX6_bound_37 ?_
        refine lv_iload_n hx hb dX6_bound_40 rfl (lv_at hl 2 rfl) ?_
        refine lv_iload_n hx hb dX6_bound_41 rfl (lv_at hl 3 rfl) ?_
        obtain ⟨oB9, g10, hf⟩ := bn1_e hf
        have fr := fr_X6_X0_oB o cA oX oP oD oR oT oB oC oG oB9
        refine go_v (run_v (As := [.int a1, .int a2]) (rest := []) ⟨hx, hb, hml, hown, hts⟩ (k_X0_setBound l D cA tx ty o 7 oB a1 a2 oB9 g10 H.size) (cwV 2 hts gX6_bound_X0_setBound rfl rfl rfl hd_X0_setBound ⟨Nat.le_of_ble_eq_true rfl, Nat.le_of_ble_eq_true rfl⟩) fr hw hK hA hZo hZ (ci := 0) rfl rfl rfl rfl hl.1 rfl (Nat.le_of_ble_eq_true rfl) dX6_bound_42 ⟨Nat.zero_le _, Nat.zero_le _⟩) fr hw hA (fun H locs hw => ?_)
        refine lv_aload_n hx hb dX6_bound_45 rfl (lv_at hl 1 rfl) ?_
        obtain ⟨oR11, oT12, g13, hf⟩ := bn2_e hf
        have fr := fr_X6_X6_oX_oP_oD_oR_oT_oB_oC_oG o cA oX oP oD oR oT oB9 oC oG oX oP oD oR11 oT12 oB9 oC oG
        refine go_v (run_v (As := []) (rest := []) ⟨hx, hb, hml, hown, hts⟩ (k_X6_forget l D cA tx ty o oX oP oD oR oT oB9 oC oG oR11 oT12 g13 H.size) (cwV 0 hts gX6_bound_X6_forget rfl rfl rfl hd_X6_forget ⟨Nat.le_of_ble_eq_true rfl, Nat.le_of_ble_eq_true rfl⟩) fr hw hK hA hZo hZ (ci := 6) rfl rfl rfl rfl hl.1 rfl (Nat.le_of_ble_eq_true rfl) dX6_bound_46 ⟨Nat.zero_le _, Nat.zero_le _⟩) fr hw hA (fun H locs hw => ?_)
        refine lv_iload_n hx hb dX6_bound_49 rfl (lv_at hl 0 rfl) ?_
        obtain ⟨e0_, e1_, e2_, e3_⟩ := sm4 hf
        exact hret _ _ _ _ _ (by rw [← e1_, ← e2_, ← e3_]; exact hw) e0_ (Or.inl rfl) dX6_bound_50
      · have hf := if_t c6 hf
        refine lv_bipush (v := (-102)) hx hb dX6_bound_25 (by decide) ?_
        obtain ⟨e0_, e1_, e2_, e3_⟩ := sm4 hf
        exact hret _ _ _ _ _ (by rw [← e1_, ← e2_, ← e3_]; exact hw) e0_ (Or.inl rfl) dX6_bound_27
    · have hf := if_t c3 hf
      refine lv_bipush (v := (-103)) hx hb dX6_bound_10 (by decide) ?_
      obtain ⟨e0_, e1_, e2_, e3_⟩ := sm4 hf
      exact hret _ _ _ _ _ (by rw [← e1_, ← e2_, ← e3_]; exact hw) e0_ (Or.inl rfl) dX6_bound_12
  rw [hH, hlc] at goal
  exact goal
abbrev rmX6_circle : Room := { frames := 3, cells := 0, slots := 0, locals := 73 }
theorem hd_X6_circle : yX6_circle.cls = RX6 ∧ yX6_circle.cls ≠ "java/lang/invoke/MethodHandle" ∧ yX6_circle.cls ≠ "java/lang/invoke/VarHandle" ∧ (parseMethodDescriptor yX6_circle.desc).map (fun d => d.parameters.length) = some 4 := by decide +kernel
set_option maxHeartbeats 4000000 in
set_option maxRecDepth 100000 in
theorem k_X6_circle (l : Launch) (D : va_G) (cA : ClassId) (tx ty : Nat) (o : Nat → Nat) (oX : St) (oP : St) (oD : St) (oR : St) (oT : St) (oB : St) (oC : St) (oG : St) (a1 : Int32) (a2 : Int32) (a3 : Int32) (a4 : Int32) (r : Int32) (oC' : St) (hf : f_X6_circle oB oC a1 a2 a3 a4 = some (r, oC')) : Mi l yX6_circle wsX6_circle rmX6_circle D cA (z_X tx ty) [.ref (o 0), .int a1, .int a2, .int a3, .int a4] (wX6 o cA oX oP oD oR oT oB oC oG) r (wX6 o cA oX oP oD oR oT oB oC' oG) := by
  refine Mi.of (cc := cX6_circle) (maxL := 5) (ret := (some .int)) (plainFor_of_name (by decide)) rfl (Nat.le_of_ble_eq_true rfl) (Or.inl rfl) ?_
  intro p e s m below meth c A Q hx hb hml hown hts hK hA hZ hret ls hl hw
  replace hown : s.vm.findClass RX6 = some m.cls := hown
  have hl : lv_has ls 5 [(0, .ref (o 0)), (1, .int a1), (2, .int a2), (3, .int a3), (4, .int a4)] := hl
  have hZo := z_X_ok tx ty
  have hi6 : ∀ w ∈ wsX60, w ∈ wsX6_circle := fun w h => List.mem_cons_of_mem _ (List.mem_append_left _ (List.mem_append_left _ (List.mem_append_right _ h)))
  have q0 := hts (.fieldLink RX6 19 "ArcRings" "board" "LArcRings$Board;") (by decide +kernel)
  have q1 := hts (.fieldLink RX6 28 "ArcRings" "shape" "LArcRings$Circle;") (by decide +kernel)
  unfold f_X6_circle at hf
  obtain ⟨H, hH⟩ : ∃ H, H = s.heap := ⟨_, rfl⟩
  obtain ⟨locs, hlc⟩ : ∃ locs : List Loc, locs = [] := ⟨_, rfl⟩
  have hw : Wd D A s.heap H locs (wX6 o cA oX oP oD oR oT oB oC oG) := by rw [hH, hlc]; exact hw
  have goal : W p l e rmX6_circle s m ([.ref (o 0), .int a1, .int a2, .int a3, .int a4] : List Value).toArray below meth c H locs 0 0 Q (F0 m 0 ls []) := by
    clear hH hlc
    refine lv_aload_n hx hb dX6_circle_0 rfl (lv_at hl 0 rfl) ?_
    refine w_get hx hb hts hi6 hown hK hw 0 rfl rfl 1 (by decide) q0 rfl (v := .ref (o 7)) rfl dX6_circle_1 ?_
    refine lv_iload_n hx hb dX6_circle_4 rfl (lv_at hl 1 rfl) ?_
    obtain ⟨x1, g2, hf⟩ := bn1_e hf
    have fr := fr_X6_X0_oB o cA oX oP oD oR oT oB oC oG oB
    refine go_i (run_v (As := [.int a1]) (rest := []) ⟨hx, hb, hml, hown, hts⟩ (k_X0_has l D cA tx ty o 7 oB a1 x1 g2 H.size) (cwV 1 hts gX6_circle_X0_has rfl rfl rfl hd_X0_has ⟨Nat.le_of_ble_eq_true rfl, Nat.le_of_ble_eq_true rfl⟩) fr hw hK hA hZo hZ (ci := 0) rfl rfl rfl rfl hl.1 rfl (Nat.le_of_ble_eq_true rfl) dX6_circle_5 ⟨Nat.zero_le _, Nat.zero_le _⟩) fr hw hA (fun H locs hw => ?_)
    refine lv_if_eq (tgt := 48) hx hb dX6_circle_8 (by decide) (fun c3 => ?_) (fun c3 => ?_)
    · have hf := if_t c3 hf
      refine lv_bipush (v := (-101)) hx hb dX6_circle_48 (by decide) ?_
      obtain ⟨e0_, e1_⟩ := sm2 hf
      exact hret _ _ _ _ _ (by rw [← e1_]; exact hw) e0_ (Or.inl rfl) dX6_circle_50
    · have hf := if_f c3 hf
      refine lv_aload_n hx hb dX6_circle_11 rfl (lv_at hl 0 rfl) ?_
      refine w_get hx hb hts hi6 hown hK hw 0 rfl rfl 1 (by decide) q0 rfl (v := .ref (o 7)) rfl dX6_circle_12 ?_
      refine lv_iload_n hx hb dX6_circle_15 rfl (lv_at hl 2 rfl) ?_
      obtain ⟨x4, g5, hf⟩ := bn1_e hf
      have fr := fr_X6_X0_oB o cA oX oP oD oR oT oB oC oG oB
      refine go_i (run_v (As := [.int a2]) (rest := []) ⟨hx, hb, hml, hown, hts⟩ (k_X0_has l D cA tx ty o 7 oB a2 x4 g5 H.size) (cwV 1 hts gX6_circle_X0_has rfl rfl rfl hd_X0_has ⟨Nat.le_of_ble_eq_true rfl, Nat.le_of_ble_eq_true rfl⟩) fr hw hK hA hZo hZ (ci := 0) rfl rfl rfl rfl hl.1 rfl (Nat.le_of_ble_eq_true rfl) dX6_circle_16 ⟨Nat.zero_le _, Nat.zero_le _⟩) fr hw hA (fun H locs hw => ?_)
      refine lv_if_eq (tgt := 48) hx hb dX6_circle_19 (by decide) (fun c6 => ?_) (fun c6 => ?_)
      · have hf := if_t c6 hf
        refine lv_bipush (v := (-101)) hx hb dX6_circle_48 (by decide) ?_
        obtain ⟨e0_, e1_⟩ := sm2 hf
        exact hret _ _ _ _ _ (by rw [← e1_]; exact hw) e0_ (Or.inl rfl) dX6_circle_50
      · have hf := if_f c6 hf
        refine lv_aload_n hx hb dX6_circle_22 rfl (lv_at hl 0 rfl) ?_
        refine w_get hx hb hts hi6 hown hK hw 0 rfl rfl 1 (by decide) q0 rfl (v := .ref (o 7)) rfl dX6_circle_23 ?_
        refine lv_iload_n hx hb dX6_circle_26 rfl (lv_at hl 3 rfl) ?_
        obtain ⟨x7, g8, hf⟩ := bn1_e hf
        have fr := fr_X6_X0_oB o cA oX oP oD oR oT oB oC oG oB
        refine go_i (run_v (As := [.int a3]) (rest := []) ⟨hx, hb, hml, hown, hts⟩ (k_X0_has l D cA tx ty o 7 oB a3 x7 g8 H.size) (cwV 1 hts gX6_circle_X0_has rfl rfl rfl hd_X0_has ⟨Nat.le_of_ble_eq_true rfl, Nat.le_of_ble_eq_true rfl⟩) fr hw hK hA hZo hZ (ci := 0) rfl rfl rfl rfl hl.1 rfl (Nat.le_of_ble_eq_true rfl) dX6_circle_27 ⟨Nat.zero_le _, Nat.zero_le _⟩) fr hw hA (fun H locs hw => ?_)
        refine lv_if_eq (tgt := 48) hx hb dX6_circle_30 (by decide) (fun c9 => ?_) (fun c9 => ?_)
        · have hf := if_t c9 hf
          refine lv_bipush (v := (-101)) hx hb dX6_circle_48 (by decide) ?_
          obtain ⟨e0_, e1_⟩ := sm2 hf
          exact hret _ _ _ _ _ (by rw [← e1_]; exact hw) e0_ (Or.inl rfl) dX6_circle_50
        · have hf := if_f c9 hf
          refine lv_iload_n hx hb dX6_circle_33 rfl (lv_at hl 1 rfl) ?_
          refine lv_iload_n hx hb dX6_circle_34 rfl (lv_at hl 2 rfl) ?_
          refine lv_icmp_eq (tgt := 48) hx hb dX6_circle_35 (by decide) (fun c10 => ?_) (fun c10 => ?_)
          · have hf := if_t c10 hf
            refine lv_bipush (v := (-101)) hx hb dX6_circle_48 (by decide) ?_
            obtain ⟨e0_, e1_⟩ := sm2 hf
            exact hret _ _ _ _ _ (by rw [← e1_]; exact hw) e0_ (Or.inl rfl) dX6_circle_50
          · have hf := if_f c10 hf
            refine lv_iload_n hx hb dX6_circle_38 rfl (lv_at hl 1 rfl) ?_
            refine lv_iload_n hx hb dX6_circle_39 rfl (lv_at hl 3 rfl) ?_
            refine lv_icmp_eq (tgt := 48) hx hb dX6_circle_40 (by decide) (fun c11 => ?_) (fun c11 => ?_)
            · have hf := if_t c11 hf
              refine lv_bipush (v := (-101)) hx hb dX6_circle_48 (by decide) ?_
              obtain ⟨e0_, e1_⟩ := sm2 hf
              exact hret _ _ _ _ _ (by rw [← e1_]; exact hw) e0_ (Or.inl rfl) dX6_circle_50
            · have hf := if_f c11 hf
              refine lv_iload_n hx hb dX6_circle_43 rfl (lv_at hl 2 rfl) ?_
              refine lv_iload_n hx hb dX6_circle_44 rfl (lv_at hl 3 rfl) ?_
              refine lv_icmp_ne (tgt := 51) hx hb dX6_circle_45 (by decide) (fun c12 => ?_) (fun c12 => ?_)
              · have hf := if_f c12 hf
                refine lv_iload hx hb dX6_circle_51 (lv_at hl 4 rfl) ?_
                refine lv_if_lt (tgt := 62) hx hb dX6_circle_53 (by decide) (fun c13 => ?_) (fun c13 => ?_)
                · have hf := if_t c13 hf
                  refine lv_bipush (v := (-102)) hx hb dX6_circle_62 (by decide) ?_
                  obtain ⟨e0_, e1_⟩ := sm2 hf
                  exact hret _ _ _ _ _ (by rw [← e1_]; exact hw) e0_ (Or.inl rfl) dX6_circle_64
                · have hf := if_f c13 hf
                  refine lv_iload hx hb dX6_circle_56 (lv_at hl 4 rfl) ?_
                  refine lv_iconst (v := 4) hx hb dX6_circle_58 (by decide) ?_
                  refine lv_icmp_le (tgt := 65) hx hb dX6_circle_59 (by decide) (fun c14 => ?_) (fun c14 => ?_)
                  · have hf := if_t c14 hf
                    refine lv_aload_n hx hb dX6_circle_65 rfl (lv_at hl 0 rfl) ?_
                    refine w_get hx hb hts hi6 hown hK hw 0 rfl rfl 2 (by decide) q1 rfl (v := .ref (o 11)) rfl dX6_circle_66 ?_
                    refine lv_iload_n hx hb dX6_circle_69 rfl (lv_at hl 1 rfl) ?_
                    refine lv_iload_n hx hb dX6_circle_70 rfl (lv_at hl 2 rfl) ?_
                    refine lv_iload_n hx hb dX6_circle_71 rfl (lv_at hl 3 rfl) ?_
                    obtain ⟨oC15, g16, hf⟩ := bn1_e hf
                    have fr := fr_X6_X1_oC_oB o cA oX oP oD oR oT oB oC oG oC15 oB
                    refine go_v (run_v (As := [.int a1, .int a2, .int a3]) (rest := []) ⟨hx, hb, hml, hown, hts⟩ (k_X1_lay l D cA tx ty o oC oB a1 a2 a3 oC15 g16 H.size) (cwV 3 hts gX6_circle_X1_lay rfl rfl rfl hd_X1_lay ⟨Nat.le_of_ble_eq_true rfl, Nat.le_of_ble_eq_true rfl⟩) fr hw hK hA hZo hZ (ci := 1) rfl rfl rfl rfl hl.1 rfl (Nat.le_of_ble_eq_true rfl) dX6_circle_72 ⟨Nat.zero_le _, Nat.zero_le _⟩) fr hw hA (fun H locs hw => ?_)
                    refine lv_aload_n hx hb dX6_circle_75 rfl (lv_at hl 0 rfl) ?_
                    refine w_get hx hb hts hi6 hown hK hw 0 rfl rfl 2 (by decide) q1 rfl (v := .ref (o 11)) rfl dX6_circle_76 ?_
                    obtain ⟨x17, g18, hf⟩ := bn1_e hf
                    have fr := fr_X6_X1_oC_oB o cA oX oP oD oR oT oB oC15 oG oC15 oB
                    refine go_i (run_v (As := []) (rest := []) ⟨hx, hb, hml, hown, hts⟩ (k_X1_isLine l D cA tx ty o oC15 oB x17 g18 H.size) (cwV 0 hts gX6_circle_X1_isLine rfl rfl rfl hd_X1_isLine ⟨Nat.le_of_ble_eq_true rfl, Nat.le_of_ble_eq_true rfl⟩) fr hw hK hA hZo hZ (ci := 1) rfl rfl rfl rfl hl.1 rfl (Nat.le_of_ble_eq_true rfl) dX6_circle_79 ⟨Nat.zero_le _, Nat.zero_le _⟩) fr hw hA (fun H locs hw => ?_)
                    refine lv_if_eq (tgt := 88) hx hb dX6_circle_82 (by decide) (fun c19 => ?_) (fun c19 => ?_)
                    · have hf := if_t c19 hf
                      refine lv_iload hx hb dX6_circle_88 (lv_at hl 4 rfl) ?_
                      by_cases c20 : a4 = 0
                      · have hf := if_t c20 hf
                        refine lv_tableIn (tgt := 120) hx hb dX6_circle_90 (by rw [c20]; decide) (by rw [c20]; decide) (by rw [c20]; rfl) (by decide) ?_
                        refine lv_aload_n hx hb dX6_circle_120 rfl (lv_at hl 0 rfl) ?_
                        refine w_get hx hb hts hi6 hown hK hw 0 rfl rfl 2 (by decide) q1 rfl (v := .ref (o 11)) rfl dX6_circle_121 ?_
                        obtain ⟨x21, g22, hf⟩ := bn1_e hf
                        have fr := fr_X6_X1_oC_oB o cA oX oP oD oR oT oB oC15 oG oC15 oB
                        refine go_i (run_v (As := []) (rest := []) ⟨hx, hb, hml, hown, hts⟩ (k_X1_vote l D cA tx ty o oC15 oB x21 g22 H.size) (cwV 0 hts gX6_circle_X1_vote rfl rfl rfl hd_X1_vote ⟨Nat.le_of_ble_eq_true rfl, Nat.le_of_ble_eq_true rfl⟩) fr hw hK hA hZo hZ (ci := 1) rfl rfl rfl rfl hl.1 rfl (Nat.le_of_ble_eq_true rfl) dX6_circle_124 ⟨Nat.zero_le _, Nat.zero_le _⟩) fr hw hA (fun H locs hw => ?_)
                        refine lv_iconst (v := (-1)) hx hb dX6_circle_127 (by decide) ?_
                        refine lv_icmp_ne (tgt := 135) hx hb dX6_circle_128 (by decide) (fun c23 => ?_) (fun c23 => ?_)
                        · have hf := if_f c23 hf
                          refine lv_iconst (v := 1) hx hb dX6_circle_135 (by decide) ?_
                          obtain ⟨e0_, e1_⟩ := sm2 hf
                          exact hret _ _ _ _ _ (by rw [← e1_]; exact hw) e0_ (Or.inl rfl) dX6_circle_136
                        · have hf := if_t c23 hf
                          refine lv_iconst (v := 0) hx hb dX6_circle_131 (by decide) ?_
                          refine lv_goto (tgt := 136) hx hb dX6_circle_132 (by decide) ?_
                          obtain ⟨e0_, e1_⟩ := sm2 hf
                          exact hret _ _ _ _ _ (by rw [← e1_]; exact hw) e0_ (Or.inl rfl) dX6_circle_136
                      have hf := if_f c20 hf
                      by_cases c24 : a4 = 1
                      · have hf := if_t c24 hf
                        refine lv_tableIn (tgt := 137) hx hb dX6_circle_90 (by rw [c24]; decide) (by rw [c24]; decide) (by rw [c24]; rfl) (by decide) ?_
                        refine lv_aload_n hx hb dX6_circle_137 rfl (lv_at hl 0 rfl) ?_
                        refine w_get hx hb hts hi6 hown hK hw 0 rfl rfl 2 (by decide) q1 rfl (v := .ref (o 11)) rfl dX6_circle_138 ?_
                        obtain ⟨x25, g26, hf⟩ := bn1_e hf
                        have fr := fr_X6_X1_oC_oB o cA oX oP oD oR oT oB oC15 oG oC15 oB
                        refine go_i (run_v (As := []) (rest := []) ⟨hx, hb, hml, hown, hts⟩ (k_X1_cellX l D cA tx ty o oC15 oB x25 g26 H.size) (cwV 0 hts gX6_circle_X1_cellX rfl rfl rfl hd_X1_cellX ⟨Nat.le_of_ble_eq_true rfl, Nat.le_of_ble_eq_true rfl⟩) fr hw hK hA hZo hZ (ci := 1) rfl rfl rfl rfl hl.1 rfl (Nat.le_of_ble_eq_true rfl) dX6_circle_141 ⟨Nat.zero_le _, Nat.zero_le _⟩) fr hw hA (fun H locs hw => ?_)
                        obtain ⟨e0_, e1_⟩ := sm2 hf
                        exact hret _ _ _ _ _ (by rw [← e1_]; exact hw) e0_ (Or.inl rfl) dX6_circle_144
                      have hf := if_f c24 hf
                      by_cases c27 : a4 = 2
                      · have hf := if_t c27 hf
                        refine lv_tableIn (tgt := 145) hx hb dX6_circle_90 (by rw [c27]; decide) (by rw [c27]; decide) (by rw [c27]; rfl) (by decide) ?_
                        refine lv_aload_n hx hb dX6_circle_145 rfl (lv_at hl 0 rfl) ?_
                        refine w_get hx hb hts hi6 hown hK hw 0 rfl rfl 2 (by decide) q1 rfl (v := .ref (o 11)) rfl dX6_circle_146 ?_
                        obtain ⟨x28, g29, hf⟩ := bn1_e hf
                        have fr := fr_X6_X1_oC_oB o cA oX oP oD oR oT oB oC15 oG oC15 oB
                        refine go_i (run_v (As := []) (rest := []) ⟨hx, hb, hml, hown, hts⟩ (k_X1_cellY l D cA tx ty o oC15 oB x28 g29 H.size) (cwV 0 hts gX6_circle_X1_cellY rfl rfl rfl hd_X1_cellY ⟨Nat.le_of_ble_eq_true rfl, Nat.le_of_ble_eq_true rfl⟩) fr hw hK hA hZo hZ (ci := 1) rfl rfl rfl rfl hl.1 rfl (Nat.le_of_ble_eq_true rfl) dX6_circle_149 ⟨Nat.zero_le _, Nat.zero_le _⟩) fr hw hA (fun H locs hw => ?_)
                        obtain ⟨e0_, e1_⟩ := sm2 hf
                        exact hret _ _ _ _ _ (by rw [← e1_]; exact hw) e0_ (Or.inl rfl) dX6_circle_152
                      have hf := if_f c27 hf
                      by_cases c30 : a4 = 3
                      · have hf := if_t c30 hf
                        refine lv_tableIn (tgt := 153) hx hb dX6_circle_90 (by rw [c30]; decide) (by rw [c30]; decide) (by rw [c30]; rfl) (by decide) ?_
                        refine lv_aload_n hx hb dX6_circle_153 rfl (lv_at hl 0 rfl) ?_
                        refine w_get hx hb hts hi6 hown hK hw 0 rfl rfl 2 (by decide) q1 rfl (v := .ref (o 11)) rfl dX6_circle_154 ?_
                        obtain ⟨x31, g32, hf⟩ := bn1_e hf
                        have fr := fr_X6_X1_oC_oB o cA oX oP oD oR oT oB oC15 oG oC15 oB
                        refine go_i (run_v (As := []) (rest := []) ⟨hx, hb, hml, hown, hts⟩ (k_X1_radius l D cA tx ty o oC15 oB x31 g32 H.size) (cwV 0 hts gX6_circle_X1_radius rfl rfl rfl hd_X1_radius ⟨Nat.le_of_ble_eq_true rfl, Nat.le_of_ble_eq_true rfl⟩) fr hw hK hA hZo hZ (ci := 1) rfl rfl rfl rfl hl.1 rfl (Nat.le_of_ble_eq_true rfl) dX6_circle_157 ⟨Nat.zero_le _, Nat.zero_le _⟩) fr hw hA (fun H locs hw => ?_)
                        obtain ⟨e0_, e1_⟩ := sm2 hf
                        exact hret _ _ _ _ _ (by rw [← e1_]; exact hw) e0_ (Or.inl rfl) dX6_circle_160
                      have hf := if_f c30 hf
                      refine lv_tableOut (tgt := 161) hx hb dX6_circle_90 (w_out (n := 4) (by decide) (fun k hk => ?_)) (by decide) ?_
                      · match k, hk with
                        | 0, _ => exact c20
                        | 1, _ => exact c24
                        | 2, _ => exact c27
                        | 3, _ => exact c30
                        | k + 4, hk => omega
                      refine lv_aload_n hx hb dX6_circle_161 rfl (lv_at hl 0 rfl) ?_
                      refine w_get hx hb hts hi6 hown hK hw 0 rfl rfl 2 (by decide) q1 rfl (v := .ref (o 11)) rfl dX6_circle_162 ?_
                      obtain ⟨x33, g34, hf⟩ := bn1_e hf
                      have fr := fr_X6_X1_oC_oB o cA oX oP oD oR oT oB oC15 oG oC15 oB
                      refine go_i (run_v (As := []) (rest := []) ⟨hx, hb, hml, hown, hts⟩ (k_X1_agreeing l D cA tx ty o oC15 oB x33 g34 H.size) (cwV 0 hts gX6_circle_X1_agreeing rfl rfl rfl hd_X1_agreeing ⟨Nat.le_of_ble_eq_true rfl, Nat.le_of_ble_eq_true rfl⟩) fr hw hK hA hZo hZ (ci := 1) rfl rfl rfl rfl hl.1 rfl (Nat.le_of_ble_eq_true rfl) dX6_circle_165 ⟨Nat.zero_le _, Nat.zero_le _⟩) fr hw hA (fun H locs hw => ?_)
                      obtain ⟨e0_, e1_⟩ := sm2 hf
                      exact hret _ _ _ _ _ (by rw [← e1_]; exact hw) e0_ (Or.inl rfl) dX6_circle_168
                    · have hf := if_f c19 hf
                      refine lv_bipush (v := (-103)) hx hb dX6_circle_85 (by decide) ?_
                      obtain ⟨e0_, e1_⟩ := sm2 hf
                      exact hret _ _ _ _ _ (by rw [← e1_]; exact hw) e0_ (Or.inl rfl) dX6_circle_87
                  · have hf := if_f c14 hf
                    refine lv_bipush (v := (-102)) hx hb dX6_circle_62 (by decide) ?_
                    obtain ⟨e0_, e1_⟩ := sm2 hf
                    exact hret _ _ _ _ _ (by rw [← e1_]; exact hw) e0_ (Or.inl rfl) dX6_circle_64
              · have hf := if_t c12 hf
                refine lv_bipush (v := (-101)) hx hb dX6_circle_48 (by decide) ?_
                obtain ⟨e0_, e1_⟩ := sm2 hf
                exact hret _ _ _ _ _ (by rw [← e1_]; exact hw) e0_ (Or.inl rfl) dX6_circle_50
  rw [hH, hlc] at goal
  exact goal
abbrev rmX6_votes : Room := { frames := 6, cells := 0, slots := 0, locals := 141 }
theorem hd_X6_votes : yX6_votes.cls = RX6 ∧ yX6_votes.cls ≠ "java/lang/invoke/MethodHandle" ∧ yX6_votes.cls ≠ "java/lang/invoke/VarHandle" ∧ (parseMethodDescriptor yX6_votes.desc).map (fun d => d.parameters.length) = some 3 := by decide +kernel
set_option maxHeartbeats 4000000 in
set_option maxRecDepth 100000 in
theorem k_X6_votes (l : Launch) (D : va_G) (cA : ClassId) (tx ty : Nat) (o : Nat → Nat) (oX : St) (oP : St) (oD : St) (oR : St) (oT : St) (oB : St) (oC : St) (oG : St) (a1 : Int32) (a2 : Int32) (a3 : Int32) (r : Int32) (oT' : St) (oC' : St) (oG' : St) (hf : f_X6_votes oT oB oC oG a1 a2 a3 = some (r, oT', oC', oG')) : Mi l yX6_votes wsX6_votes rmX6_votes D cA (z_X tx ty) [.ref (o 0), .int a1, .int a2, .int a3] (wX6 o cA oX oP oD oR oT oB oC oG) r (wX6 o cA oX oP oD oR oT' oB oC' oG') := by
  refine Mi.of (cc := cX6_votes) (maxL := 4) (ret := (some .int)) (plainFor_of_name (by decide)) rfl (Nat.le_of_ble_eq_true rfl) (Or.inl rfl) ?_
  intro p e s m below meth c A Q hx hb hml hown hts hK hA hZ hret ls hl hw
  replace hown : s.vm.findClass RX6 = some m.cls := hown
  have hl : lv_has ls 4 [(0, .ref (o 0)), (1, .int a1), (2, .int a2), (3, .int a3)] := hl
  have hZo := z_X_ok tx ty
  have hi6 : ∀ w ∈ wsX60, w ∈ wsX6_votes := fun w h => List.mem_cons_of_mem _ (List.mem_append_left _ (List.mem_append_left _ (List.mem_append_left _ (List.mem_append_left _ (List.mem_append_right _ h)))))
  have q0 := hts (.fieldLink RX6 19 "ArcRings" "board" "LArcRings$Board;") (by decide +kernel)
  have q1 := hts (.fieldLink RX6 44 "ArcRings" "table" "LArcRings$Table;") (by decide +kernel)
  unfold f_X6_votes at hf
  obtain ⟨H, hH⟩ : ∃ H, H = s.heap := ⟨_, rfl⟩
  obtain ⟨locs, hlc⟩ : ∃ locs : List Loc, locs = [] := ⟨_, rfl⟩
  have hw : Wd D A s.heap H locs (wX6 o cA oX oP oD oR oT oB oC oG) := by rw [hH, hlc]; exact hw
  have goal : W p l e rmX6_votes s m ([.ref (o 0), .int a1, .int a2, .int a3] : List Value).toArray below meth c H locs 0 0 Q (F0 m 0 ls []) := by
    clear hH hlc
    refine lv_aload_n hx hb dX6_votes_0 rfl (lv_at hl 0 rfl) ?_
    refine w_get hx hb hts hi6 hown hK hw 0 rfl rfl 1 (by decide) q0 rfl (v := .ref (o 7)) rfl dX6_votes_1 ?_
    obtain ⟨x1, g2, hf⟩ := bn1_e hf
    have fr := fr_X6_X0_oB o cA oX oP oD oR oT oB oC oG oB
    refine go_i (run_v (As := []) (rest := []) ⟨hx, hb, hml, hown, hts⟩ (k_X0_isThere l D cA tx ty o 7 oB x1 g2 H.size) (cwV 0 hts gX6_votes_X0_isThere rfl rfl rfl hd_X0_isThere ⟨Nat.le_of_ble_eq_true rfl, Nat.le_of_ble_eq_true rfl⟩) fr hw hK hA hZo hZ (ci := 0) rfl rfl rfl rfl hl.1 rfl (Nat.le_of_ble_eq_true rfl) dX6_votes_4 ⟨Nat.zero_le _, Nat.zero_le _⟩) fr hw hA (fun H locs hw => ?_)
    refine lv_if_ne (tgt := 13) hx hb dX6_votes_7 (by decide) (fun c3 => ?_) (fun c3 => ?_)
    · have hf := if_f c3 hf
      refine lv_aload_n hx hb dX6_votes_13 rfl (lv_at hl 0 rfl) ?_
      refine w_get hx hb hts hi6 hown hK hw 0 rfl rfl 4 (by decide) q1 rfl (v := .ref (o 13)) rfl dX6_votes_14 ?_
      obtain ⟨oT4, oC5, oG6, g7, hf⟩ := bn3_e hf
      have fr := fr_X6_X5_oT_oB_oC_oG o cA oX oP oD oR oT oB oC oG oT4 oB oC5 oG6
      refine go_v (run_v (As := []) (rest := []) ⟨hx, hb, hml, hown, hts⟩ (k_X5_refresh l D cA tx ty o oT oB oC oG oT4 oC5 oG6 g7 H.size) (cwV 0 hts gX6_votes_X5_refresh rfl rfl rfl hd_X5_refresh ⟨Nat.le_of_ble_eq_true rfl, Nat.le_of_ble_eq_true rfl⟩) fr hw hK hA hZo hZ (ci := 5) rfl rfl rfl rfl hl.1 rfl (Nat.le_of_ble_eq_true rfl) dX6_votes_17 ⟨Nat.zero_le _, Nat.zero_le _⟩) fr hw hA (fun H locs hw => ?_)
      refine lv_aload_n hx hb dX6_votes_20 rfl (lv_at hl 0 rfl) ?_
      refine w_get hx hb hts hi6 hown hK hw 0 rfl rfl 4 (by decide) q1 rfl (v := .ref (o 13)) rfl dX6_votes_21 ?_
      refine lv_iload_n hx hb dX6_votes_24 rfl (lv_at hl 1 rfl) ?_
      refine lv_iload_n hx hb dX6_votes_25 rfl (lv_at hl 2 rfl) ?_
      refine lv_iload_n hx hb dX6_votes_26 rfl (lv_at hl 3 rfl) ?_
      obtain ⟨x8, g9, hf⟩ := bn1_e hf
      have fr := fr_X6_X5_oT_oB_oC_oG o cA oX oP oD oR oT4 oB oC5 oG6 oT4 oB oC5 oG6
      refine go_i (run_v (As := [.int a1, .int a2, .int a3]) (rest := []) ⟨hx, hb, hml, hown, hts⟩ (k_X5_votesFor l D cA tx ty o oT4 oB oC5 oG6 a1 a2 a3 x8 g9 H.size) (cwV 3 hts gX6_votes_X5_votesFor rfl rfl rfl hd_X5_votesFor ⟨Nat.le_of_ble_eq_true rfl, Nat.le_of_ble_eq_true rfl⟩) fr hw hK hA hZo hZ (ci := 5) rfl rfl rfl rfl hl.1 rfl (Nat.le_of_ble_eq_true rfl) dX6_votes_27 ⟨Nat.zero_le _, Nat.zero_le _⟩) fr hw hA (fun H locs hw => ?_)
      obtain ⟨e0_, e1_, e2_, e3_⟩ := sm4 hf
      exact hret _ _ _ _ _ (by rw [← e1_, ← e2_, ← e3_]; exact hw) e0_ (Or.inl rfl) dX6_votes_30
    · have hf := if_t c3 hf
      refine lv_bipush (v := (-103)) hx hb dX6_votes_10 (by decide) ?_
      obtain ⟨e0_, e1_, e2_, e3_⟩ := sm4 hf
      exact hret _ _ _ _ _ (by rw [← e1_, ← e2_, ← e3_]; exact hw) e0_ (Or.inl rfl) dX6_votes_12
  rw [hH, hlc] at goal
  exact goal
abbrev rmX6_spot : Room := { frames := 6, cells := 0, slots := 0, locals := 141 }
theorem hd_X6_spot : yX6_spot.cls = RX6 ∧ yX6_spot.cls ≠ "java/lang/invoke/MethodHandle" ∧ yX6_spot.cls ≠ "java/lang/invoke/VarHandle" ∧ (parseMethodDescriptor yX6_spot.desc).map (fun d => d.parameters.length) = some 2 := by decide +kernel
set_option maxHeartbeats 4000000 in
set_option maxRecDepth 100000 in
theorem k_X6_spot (l : Launch) (D : va_G) (cA : ClassId) (tx ty : Nat) (o : Nat → Nat) (oX : St) (oP : St) (oD : St) (oR : St) (oT : St) (oB : St) (oC : St) (oG : St) (a1 : Int32) (a2 : Int32) (r : Int32) (oT' : St) (oC' : St) (oG' : St) (hf : f_X6_spot oT oB oC oG a1 a2 = some (r, oT', oC', oG')) : Mi l yX6_spot wsX6_spot rmX6_spot D cA (z_X tx ty) [.ref (o 0), .int a1, .int a2] (wX6 o cA oX oP oD oR oT oB oC oG) r (wX6 o cA oX oP oD oR oT' oB oC' oG') := by
  refine Mi.of (cc := cX6_spot) (maxL := 3) (ret := (some .int)) (plainFor_of_name (by decide)) rfl (Nat.le_of_ble_eq_true rfl) (Or.inl rfl) ?_
  intro p e s m below meth c A Q hx hb hml hown hts hK hA hZ hret ls hl hw
  replace hown : s.vm.findClass RX6 = some m.cls := hown
  have hl : lv_has ls 3 [(0, .ref (o 0)), (1, .int a1), (2, .int a2)] := hl
  have hZo := z_X_ok tx ty
  have hi5 : ∀ w ∈ wsX50, w ∈ wsX6_spot := fun w h => List.mem_cons_of_mem _ (List.mem_append_left _ (List.mem_append_left _ (List.mem_append_left _ (List.mem_append_right _ h))))
  have hi6 : ∀ w ∈ wsX60, w ∈ wsX6_spot := fun w h => List.mem_cons_of_mem _ (List.mem_append_left _ (List.mem_append_left _ (List.mem_append_left _ (List.mem_append_left _ (List.mem_append_right _ h)))))
  have q0 := hts (.fieldLink RX6 44 "ArcRings" "table" "LArcRings$Table;") (by decide +kernel)
  have q1 := hts (.fieldLink RX6 205 "ArcRings$Table" "size" "I") (by decide +kernel)
  unfold f_X6_spot at hf
  obtain ⟨H, hH⟩ : ∃ H, H = s.heap := ⟨_, rfl⟩
  obtain ⟨locs, hlc⟩ : ∃ locs : List Loc, locs = [] := ⟨_, rfl⟩
  have hw : Wd D A s.heap H locs (wX6 o cA oX oP oD oR oT oB oC oG) := by rw [hH, hlc]; exact hw
  have goal : W p l e rmX6_spot s m ([.ref (o 0), .int a1, .int a2] : List Value).toArray below meth c H locs 0 0 Q (F0 m 0 ls []) := by
    clear hH hlc
    refine lv_aload_n hx hb dX6_spot_0 rfl (lv_at hl 0 rfl) ?_
    refine w_get hx hb hts hi6 hown hK hw 0 rfl rfl 4 (by decide) q0 rfl (v := .ref (o 13)) rfl dX6_spot_1 ?_
    obtain ⟨oT1, oC2, oG3, g4, hf⟩ := bn3_e hf
    have fr := fr_X6_X5_oT_oB_oC_oG o cA oX oP oD oR oT oB oC oG oT1 oB oC2 oG3
    refine go_v (run_v (As := []) (rest := []) ⟨hx, hb, hml, hown, hts⟩ (k_X5_refresh l D cA tx ty o oT oB oC oG oT1 oC2 oG3 g4 H.size) (cwV 0 hts gX6_spot_X5_refresh rfl rfl rfl hd_X5_refresh ⟨Nat.le_of_ble_eq_true rfl, Nat.le_of_ble_eq_true rfl⟩) fr hw hK hA hZo hZ (ci := 5) rfl rfl rfl rfl hl.1 rfl (Nat.le_of_ble_eq_true rfl) dX6_spot_4 ⟨Nat.zero_le _, Nat.zero_le _⟩) fr hw hA (fun H locs hw => ?_)
    refine lv_iload_n hx hb dX6_spot_7 rfl (lv_at hl 1 rfl) ?_
    refine lv_if_lt (tgt := 22) hx hb dX6_spot_8 (by decide) (fun c5 => ?_) (fun c5 => ?_)
    · have hf := if_t c5 hf
      refine lv_bipush (v := (-101)) hx hb dX6_spot_22 (by decide) ?_
      obtain ⟨e0_, e1_, e2_, e3_⟩ := sm4 hf
      exact hret _ _ _ _ _ (by rw [← e1_, ← e2_, ← e3_]; exact hw) e0_ (Or.inl rfl) dX6_spot_24
    · have hf := if_f c5 hf
      refine lv_iload_n hx hb dX6_spot_11 rfl (lv_at hl 1 rfl) ?_
      refine lv_aload_n hx hb dX6_spot_12 rfl (lv_at hl 0 rfl) ?_
      refine w_get hx hb hts hi6 hown hK hw 0 rfl rfl 4 (by decide) q0 rfl (v := .ref (o 13)) rfl dX6_spot_13 ?_
      refine w_get hx hb hts hi5 hown hK hw 10 rfl rfl 4 (by decide) q1 rfl (v := .int (oT1.1 4)) rfl dX6_spot_16 ?_
      refine lv_icmp_lt (tgt := 25) hx hb dX6_spot_19 (by decide) (fun c6 => ?_) (fun c6 => ?_)
      · have hf := if_t c6 hf
        refine lv_aload_n hx hb dX6_spot_25 rfl (lv_at hl 0 rfl) ?_
        refine w_get hx hb hts hi6 hown hK hw 0 rfl rfl 4 (by decide) q0 rfl (v := .ref (o 13)) rfl dX6_spot_26 ?_
        refine lv_iload_n hx hb dX6_spot_29 rfl (lv_at hl 1 rfl) ?_
        refine lv_iload_n hx hb dX6_spot_30 rfl (lv_at hl 2 rfl) ?_
        obtain ⟨x7, oG8, g9, hf⟩ := bn2_e hf
        have fr := fr_X6_X5_oT_oB_oC_oG o cA oX oP oD oR oT1 oB oC2 oG3 oT1 oB oC2 oG8
        refine go_i (run_v (As := [.int a1, .int a2]) (rest := []) ⟨hx, hb, hml, hown, hts⟩ (k_X5_tell l D cA tx ty o oT1 oB oC2 oG3 a1 a2 x7 oG8 g9 H.size) (cwV 2 hts gX6_spot_X5_tell rfl rfl rfl hd_X5_tell ⟨Nat.le_of_ble_eq_true rfl, Nat.le_of_ble_eq_true rfl⟩) fr hw hK hA hZo hZ (ci := 5) rfl rfl rfl rfl hl.1 rfl (Nat.le_of_ble_eq_true rfl) dX6_spot_31 ⟨Nat.zero_le _, Nat.zero_le _⟩) fr hw hA (fun H locs hw => ?_)
        obtain ⟨e0_, e1_, e2_, e3_⟩ := sm4 hf
        exact hret _ _ _ _ _ (by rw [← e1_, ← e2_, ← e3_]; exact hw) e0_ (Or.inl rfl) dX6_spot_34
      · have hf := if_f c6 hf
        refine lv_bipush (v := (-101)) hx hb dX6_spot_22 (by decide) ?_
        obtain ⟨e0_, e1_, e2_, e3_⟩ := sm4 hf
        exact hret _ _ _ _ _ (by rw [← e1_, ← e2_, ← e3_]; exact hw) e0_ (Or.inl rfl) dX6_spot_24
  rw [hH, hlc] at goal
  exact goal
abbrev rmX6_spots : Room := { frames := 6, cells := 0, slots := 0, locals := 141 }
theorem hd_X6_spots : yX6_spots.cls = RX6 ∧ yX6_spots.cls ≠ "java/lang/invoke/MethodHandle" ∧ yX6_spots.cls ≠ "java/lang/invoke/VarHandle" ∧ (parseMethodDescriptor yX6_spots.desc).map (fun d => d.parameters.length) = some 1 := by decide +kernel
set_option maxHeartbeats 4000000 in
set_option maxRecDepth 100000 in
theorem k_X6_spots (l : Launch) (D : va_G) (cA : ClassId) (tx ty : Nat) (o : Nat → Nat) (oX : St) (oP : St) (oD : St) (oR : St) (oT : St) (oB : St) (oC : St) (oG : St) (a1 : Int32) (r : Int32) (oT' : St) (oC' : St) (oG' : St) (hf : f_X6_spots oT oB oC oG a1 = some (r, oT', oC', oG')) : Mi l yX6_spots wsX6_spots rmX6_spots D cA (z_X tx ty) [.ref (o 0), .int a1] (wX6 o cA oX oP oD oR oT oB oC oG) r (wX6 o cA oX oP oD oR oT' oB oC' oG') := by
  refine Mi.of (cc := cX6_spots) (maxL := 2) (ret := (some .int)) (plainFor_of_name (by decide)) rfl (Nat.le_of_ble_eq_true rfl) (Or.inl rfl) ?_
  intro p e s m below meth c A Q hx hb hml hown hts hK hA hZ hret ls hl hw
  replace hown : s.vm.findClass RX6 = some m.cls := hown
  have hl : lv_has ls 2 [(0, .ref (o 0)), (1, .int a1)] := hl
  have hZo := z_X_ok tx ty
  have hi6 : ∀ w ∈ wsX60, w ∈ wsX6_spots := fun w h => List.mem_cons_of_mem _ (List.mem_append_left _ (List.mem_append_left _ (List.mem_append_left _ (List.mem_append_left _ (List.mem_append_right _ h)))))
  have q0 := hts (.fieldLink RX6 19 "ArcRings" "board" "LArcRings$Board;") (by decide +kernel)
  have q1 := hts (.fieldLink RX6 44 "ArcRings" "table" "LArcRings$Table;") (by decide +kernel)
  unfold f_X6_spots at hf
  obtain ⟨H, hH⟩ : ∃ H, H = s.heap := ⟨_, rfl⟩
  obtain ⟨locs, hlc⟩ : ∃ locs : List Loc, locs = [] := ⟨_, rfl⟩
  have hw : Wd D A s.heap H locs (wX6 o cA oX oP oD oR oT oB oC oG) := by rw [hH, hlc]; exact hw
  have goal : W p l e rmX6_spots s m ([.ref (o 0), .int a1] : List Value).toArray below meth c H locs 0 0 Q (F0 m 0 ls []) := by
    clear hH hlc
    refine lv_iload_n hx hb dX6_spots_0 rfl (lv_at hl 1 rfl) ?_
    refine lv_if_lt (tgt := 9) hx hb dX6_spots_1 (by decide) (fun c1 => ?_) (fun c1 => ?_)
    · have hf := if_t c1 hf
      refine lv_bipush (v := (-102)) hx hb dX6_spots_9 (by decide) ?_
      obtain ⟨e0_, e1_, e2_, e3_⟩ := sm4 hf
      exact hret _ _ _ _ _ (by rw [← e1_, ← e2_, ← e3_]; exact hw) e0_ (Or.inl rfl) dX6_spots_11
    · have hf := if_f c1 hf
      refine lv_iload_n hx hb dX6_spots_4 rfl (lv_at hl 1 rfl) ?_
      refine lv_iconst (v := 3) hx hb dX6_spots_5 (by decide) ?_
      refine lv_icmp_le (tgt := 12) hx hb dX6_spots_6 (by decide) (fun c2 => ?_) (fun c2 => ?_)
      · have hf := if_t c2 hf
        refine lv_aload_n hx hb dX6_spots_12 rfl (lv_at hl 0 rfl) ?_
        refine w_get hx hb hts hi6 hown hK hw 0 rfl rfl 1 (by decide) q0 rfl (v := .ref (o 7)) rfl dX6_spots_13 ?_
        obtain ⟨x3, g4, hf⟩ := bn1_e hf
        have fr := fr_X6_X0_oB o cA oX oP oD oR oT oB oC oG oB
        refine go_i (run_v (As := []) (rest := []) ⟨hx, hb, hml, hown, hts⟩ (k_X0_isThere l D cA tx ty o 7 oB x3 g4 H.size) (cwV 0 hts gX6_spots_X0_isThere rfl rfl rfl hd_X0_isThere ⟨Nat.le_of_ble_eq_true rfl, Nat.le_of_ble_eq_true rfl⟩) fr hw hK hA hZo hZ (ci := 0) rfl rfl rfl rfl hl.1 rfl (Nat.le_of_ble_eq_true rfl) dX6_spots_16 ⟨Nat.zero_le _, Nat.zero_le _⟩) fr hw hA (fun H locs hw => ?_)
        refine lv_if_ne (tgt := 25) hx hb dX6_spots_19 (by decide) (fun c5 => ?_) (fun c5 => ?_)
        · have hf := if_f c5 hf
          refine lv_aload_n hx hb dX6_spots_25 rfl (lv_at hl 0 rfl) ?_
          refine w_get hx hb hts hi6 hown hK hw 0 rfl rfl 4 (by decide) q1 rfl (v := .ref (o 13)) rfl dX6_spots_26 ?_
          obtain ⟨oT6, oC7, oG8, g9, hf⟩ := bn3_e hf
          have fr := fr_X6_X5_oT_oB_oC_oG o cA oX oP oD oR oT oB oC oG oT6 oB oC7 oG8
          refine go_v (run_v (As := []) (rest := []) ⟨hx, hb, hml, hown, hts⟩ (k_X5_refresh l D cA tx ty o oT oB oC oG oT6 oC7 oG8 g9 H.size) (cwV 0 hts gX6_spots_X5_refresh rfl rfl rfl hd_X5_refresh ⟨Nat.le_of_ble_eq_true rfl, Nat.le_of_ble_eq_true rfl⟩) fr hw hK hA hZo hZ (ci := 5) rfl rfl rfl rfl hl.1 rfl (Nat.le_of_ble_eq_true rfl) dX6_spots_29 ⟨Nat.zero_le _, Nat.zero_le _⟩) fr hw hA (fun H locs hw => ?_)
          refine lv_aload_n hx hb dX6_spots_32 rfl (lv_at hl 0 rfl) ?_
          refine w_get hx hb hts hi6 hown hK hw 0 rfl rfl 4 (by decide) q1 rfl (v := .ref (o 13)) rfl dX6_spots_33 ?_
          refine lv_iload_n hx hb dX6_spots_36 rfl (lv_at hl 1 rfl) ?_
          obtain ⟨x10, g11, hf⟩ := bn1_e hf
          have fr := fr_X6_X5_oT_oB_oC_oG o cA oX oP oD oR oT6 oB oC7 oG8 oT6 oB oC7 oG8
          refine go_i (run_v (As := [.int a1]) (rest := []) ⟨hx, hb, hml, hown, hts⟩ (k_X5_total l D cA tx ty o oT6 oB oC7 oG8 a1 x10 g11 H.size) (cwV 1 hts gX6_spots_X5_total rfl rfl rfl hd_X5_total ⟨Nat.le_of_ble_eq_true rfl, Nat.le_of_ble_eq_true rfl⟩) fr hw hK hA hZo hZ (ci := 5) rfl rfl rfl rfl hl.1 rfl (Nat.le_of_ble_eq_true rfl) dX6_spots_37 ⟨Nat.zero_le _, Nat.zero_le _⟩) fr hw hA (fun H locs hw => ?_)
          obtain ⟨e0_, e1_, e2_, e3_⟩ := sm4 hf
          exact hret _ _ _ _ _ (by rw [← e1_, ← e2_, ← e3_]; exact hw) e0_ (Or.inl rfl) dX6_spots_40
        · have hf := if_t c5 hf
          refine lv_bipush (v := (-103)) hx hb dX6_spots_22 (by decide) ?_
          obtain ⟨e0_, e1_, e2_, e3_⟩ := sm4 hf
          exact hret _ _ _ _ _ (by rw [← e1_, ← e2_, ← e3_]; exact hw) e0_ (Or.inl rfl) dX6_spots_24
      · have hf := if_f c2 hf
        refine lv_bipush (v := (-102)) hx hb dX6_spots_9 (by decide) ?_
        obtain ⟨e0_, e1_, e2_, e3_⟩ := sm4 hf
        exact hret _ _ _ _ _ (by rw [← e1_, ← e2_, ← e3_]; exact hw) e0_ (Or.inl rfl) dX6_spots_11
  rw [hH, hlc] at goal
  exact goal
abbrev rmX6_hunt : Room := { frames := 6, cells := 0, slots := 0, locals := 141 }
theorem hd_X6_hunt : yX6_hunt.cls = RX6 ∧ yX6_hunt.cls ≠ "java/lang/invoke/MethodHandle" ∧ yX6_hunt.cls ≠ "java/lang/invoke/VarHandle" ∧ (parseMethodDescriptor yX6_hunt.desc).map (fun d => d.parameters.length) = some 0 := by decide +kernel
set_option maxHeartbeats 4000000 in
set_option maxRecDepth 100000 in
theorem k_X6_hunt (l : Launch) (D : va_G) (cA : ClassId) (tx ty : Nat) (o : Nat → Nat) (oX : St) (oP : St) (oD : St) (oR : St) (oT : St) (oB : St) (oC : St) (oG : St) (r : Int32) (oX' : St) (oR' : St) (oT' : St) (oC' : St) (oG' : St) (hf : f_X6_hunt oX oR oT oB oC oG = some (r, oX', oR', oT', oC', oG')) : Mi l yX6_hunt wsX6_hunt rmX6_hunt D cA (z_X tx ty) [.ref (o 0)] (wX6 o cA oX oP oD oR oT oB oC oG) r (wX6 o cA oX' oP oD oR' oT' oB oC' oG') := by
  refine Mi.of (cc := cX6_hunt) (maxL := 1) (ret := (some .int)) (plainFor_of_name (by decide)) rfl (Nat.le_of_ble_eq_true rfl) (Or.inl rfl) ?_
  intro p e s m below meth c A Q hx hb hml hown hts hK hA hZ hret ls hl hw
  replace hown : s.vm.findClass RX6 = some m.cls := hown
  have hl : lv_has ls 1 [(0, .ref (o 0))] := hl
  have hZo := z_X_ok tx ty
  have hi3 : ∀ w ∈ wsX30, w ∈ wsX6_hunt := fun w h => List.mem_cons_of_mem _ (List.mem_append_left _ (List.mem_append_left _ (List.mem_append_left _ (List.mem_append_left _ (List.mem_append_right _ h)))))
  have hi6 : ∀ w ∈ wsX60, w ∈ wsX6_hunt := fun w h => List.mem_cons_of_mem _ (List.mem_append_left _ (List.mem_append_left _ (List.mem_append_left _ (List.mem_append_left _ (List.mem_append_left _ (List.mem_append_right _ h))))))
  have q0 := hts (.fieldLink RX6 19 "ArcRings" "board" "LArcRings$Board;") (by decide +kernel)
  have q1 := hts (.fieldLink RX6 44 "ArcRings" "table" "LArcRings$Table;") (by decide +kernel)
  have q2 := hts (.fieldLink RX6 53 "ArcRings" "kept" "LArcRings$Rings;") (by decide +kernel)
  have q3 := hts (.fieldLink RX6 217 "ArcRings" "timesHunted" "I") (by decide +kernel)
  have q4 := hts (.fieldLink RX6 220 "ArcRings$Rings" "size" "I") (by decide +kernel)
  unfold f_X6_hunt at hf
  obtain ⟨H, hH⟩ : ∃ H, H = s.heap := ⟨_, rfl⟩
  obtain ⟨locs, hlc⟩ : ∃ locs : List Loc, locs = [] := ⟨_, rfl⟩
  have hw : Wd D A s.heap H locs (wX6 o cA oX oP oD oR oT oB oC oG) := by rw [hH, hlc]; exact hw
  have goal : W p l e rmX6_hunt s m ([.ref (o 0)] : List Value).toArray below meth c H locs 0 0 Q (F0 m 0 ls []) := by
    clear hH hlc
    refine lv_aload_n hx hb dX6_hunt_0 rfl (lv_at hl 0 rfl) ?_
    refine w_get hx hb hts hi6 hown hK hw 0 rfl rfl 1 (by decide) q0 rfl (v := .ref (o 7)) rfl dX6_hunt_1 ?_
    obtain ⟨x1, g2, hf⟩ := bn1_e hf
    have fr := fr_X6_X0_oB o cA oX oP oD oR oT oB oC oG oB
    refine go_i (run_v (As := []) (rest := []) ⟨hx, hb, hml, hown, hts⟩ (k_X0_isThere l D cA tx ty o 7 oB x1 g2 H.size) (cwV 0 hts gX6_hunt_X0_isThere rfl rfl rfl hd_X0_isThere ⟨Nat.le_of_ble_eq_true rfl, Nat.le_of_ble_eq_true rfl⟩) fr hw hK hA hZo hZ (ci := 0) rfl rfl rfl rfl hl.1 rfl (Nat.le_of_ble_eq_true rfl) dX6_hunt_4 ⟨Nat.zero_le _, Nat.zero_le _⟩) fr hw hA (fun H locs hw => ?_)
    refine lv_if_ne (tgt := 13) hx hb dX6_hunt_7 (by decide) (fun c3 => ?_) (fun c3 => ?_)
    · have hf := if_f c3 hf
      refine lv_aload_n hx hb dX6_hunt_13 rfl (lv_at hl 0 rfl) ?_
      refine w_get hx hb hts hi6 hown hK hw 0 rfl rfl 4 (by decide) q1 rfl (v := .ref (o 13)) rfl dX6_hunt_14 ?_
      obtain ⟨oT4, oC5, oG6, g7, hf⟩ := bn3_e hf
      have fr := fr_X6_X5_oT_oB_oC_oG o cA oX oP oD oR oT oB oC oG oT4 oB oC5 oG6
      refine go_v (run_v (As := []) (rest := []) ⟨hx, hb, hml, hown, hts⟩ (k_X5_refresh l D cA tx ty o oT oB oC oG oT4 oC5 oG6 g7 H.size) (cwV 0 hts gX6_hunt_X5_refresh rfl rfl rfl hd_X5_refresh ⟨Nat.le_of_ble_eq_true rfl, Nat.le_of_ble_eq_true rfl⟩) fr hw hK hA hZo hZ (ci := 5) rfl rfl rfl rfl hl.1 rfl (Nat.le_of_ble_eq_true rfl) dX6_hunt_17 ⟨Nat.zero_le _, Nat.zero_le _⟩) fr hw hA (fun H locs hw => ?_)
      refine lv_aload_n hx hb dX6_hunt_20 rfl (lv_at hl 0 rfl) ?_
      refine w_get hx hb hts hi6 hown hK hw 0 rfl rfl 5 (by decide) q2 rfl (v := .ref (o 17)) rfl dX6_hunt_21 ?_
      obtain ⟨oR8, oG9, g10, hf⟩ := bn2_e hf
      have fr := fr_X6_X3_oR_oT_oB_oC_oG o cA oX oP oD oR oT4 oB oC5 oG6 oR8 oT4 oB oC5 oG9
      refine go_v (run_v (As := []) (rest := []) ⟨hx, hb, hml, hown, hts⟩ (k_X3_keepBest l D cA tx ty o oR oT4 oB oC5 oG6 oR8 oG9 g10 H.size) (cwV 0 hts gX6_hunt_X3_keepBest rfl rfl rfl hd_X3_keepBest ⟨Nat.le_of_ble_eq_true rfl, Nat.le_of_ble_eq_true rfl⟩) fr hw hK hA hZo hZ (ci := 3) rfl rfl rfl rfl hl.1 rfl (Nat.le_of_ble_eq_true rfl) dX6_hunt_24 ⟨Nat.zero_le _, Nat.zero_le _⟩) fr hw hA (fun H locs hw => ?_)
      refine lv_aload_n hx hb dX6_hunt_27 rfl (lv_at hl 0 rfl) ?_
      refine lv_dup hx hb dX6_hunt_28 rfl ?_
      refine w_get hx hb hts hi6 hown hK hw 0 rfl rfl 7 (by decide) q3 rfl (v := .int (oX.1 7)) rfl dX6_hunt_29 ?_
      refine lv_iconst (v := 1) hx hb dX6_hunt_32 (by decide) ?_
      refine lv_iadd hx hb dX6_hunt_33 ?_
      refine w_put (ws' := (wX6 o cA ((sI oX 7 ((oX.1 7) + 1))) oP oD oR8 oT4 oB oC5 oG9)) hx hb hts hi6 tyX6 tyX6_ok nmX6 hown hK hw 0 rfl rfl 7 (by decide) q3 rfl rfl rfl rfl (Nat.le_of_ble_eq_true rfl) rfl dX6_hunt_34 (fun H locs hw => ?_)
      refine lv_aload_n hx hb dX6_hunt_37 rfl (lv_at hl 0 rfl) ?_
      refine w_get hx hb hts hi6 hown hK hw 0 rfl rfl 5 (by decide) q2 rfl (v := .ref (o 17)) rfl dX6_hunt_38 ?_
      refine w_get hx hb hts hi3 hown hK hw 7 rfl rfl 4 (by decide) q4 rfl (v := .int (oR8.1 4)) rfl dX6_hunt_41 ?_
      obtain ⟨e0_, e1_, e2_, e3_, e4_, e5_⟩ := sm6 hf
      exact hret _ _ _ _ _ (by rw [← e1_, ← e2_, ← e3_, ← e4_, ← e5_]; exact hw) e0_ (Or.inl rfl) dX6_hunt_44
    · have hf := if_t c3 hf
      refine lv_bipush (v := (-103)) hx hb dX6_hunt_10 (by decide) ?_
      obtain ⟨e0_, e1_, e2_, e3_, e4_, e5_⟩ := sm6 hf
      exact hret _ _ _ _ _ (by rw [← e1_, ← e2_, ← e3_, ← e4_, ← e5_]; exact hw) e0_ (Or.inl rfl) dX6_hunt_12
  rw [hH, hlc] at goal
  exact goal
abbrev rmX6_split : Room := { frames := 5, cells := 0, slots := 0, locals := 121 }
theorem hd_X6_split : yX6_split.cls = RX6 ∧ yX6_split.cls ≠ "java/lang/invoke/MethodHandle" ∧ yX6_split.cls ≠ "java/lang/invoke/VarHandle" ∧ (parseMethodDescriptor yX6_split.desc).map (fun d => d.parameters.length) = some 0 := by decide +kernel
set_option maxHeartbeats 4000000 in
set_option maxRecDepth 100000 in
theorem k_X6_split (l : Launch) (D : va_G) (cA : ClassId) (tx ty : Nat) (o : Nat → Nat) (oX : St) (oP : St) (oD : St) (oR : St) (oT : St) (oB : St) (oC : St) (oG : St) (r : Int32) (oX' : St) (oR' : St) (oG' : St) (hf : f_X6_split oX oR oB oG = some (r, oX', oR', oG')) : Mi l yX6_split wsX6_split rmX6_split D cA (z_X tx ty) [.ref (o 0)] (wX6 o cA oX oP oD oR oT oB oC oG) r (wX6 o cA oX' oP oD oR' oT oB oC oG') := by
  refine Mi.of (cc := cX6_split) (maxL := 2) (ret := (some .int)) (plainFor_of_name (by decide)) rfl (Nat.le_of_ble_eq_true rfl) (Or.inl rfl) ?_
  intro p e s m below meth c A Q hx hb hml hown hts hK hA hZ hret ls hl hw
  replace hown : s.vm.findClass RX6 = some m.cls := hown
  have hl : lv_has ls 2 [(0, .ref (o 0))] := hl
  have hZo := z_X_ok tx ty
  have hi3 : ∀ w ∈ wsX30, w ∈ wsX6_split := fun w h => List.mem_cons_of_mem _ (List.mem_append_left _ (List.mem_append_left _ (List.mem_append_right _ h)))
  have hi6 : ∀ w ∈ wsX60, w ∈ wsX6_split := fun w h => List.mem_cons_of_mem _ (List.mem_append_left _ (List.mem_append_left _ (List.mem_append_left _ (List.mem_append_right _ h))))
  have q0 := hts (.fieldLink RX6 53 "ArcRings" "kept" "LArcRings$Rings;") (by decide +kernel)
  have q1 := hts (.fieldLink RX6 221 "ArcRings$Rings" "hunted" "Z") (by decide +kernel)
  have q2 := hts (.fieldLink RX6 220 "ArcRings$Rings" "size" "I") (by decide +kernel)
  have q3 := hts (.fieldLink RX6 228 "ArcRings" "givenUp" "I") (by decide +kernel)
  unfold f_X6_split at hf
  obtain ⟨H, hH⟩ : ∃ H, H = s.heap := ⟨_, rfl⟩
  obtain ⟨locs, hlc⟩ : ∃ locs : List Loc, locs = [] := ⟨_, rfl⟩
  have hw : Wd D A s.heap H locs (wX6 o cA oX oP oD oR oT oB oC oG) := by rw [hH, hlc]; exact hw
  have goal : W p l e rmX6_split s m ([.ref (o 0)] : List Value).toArray below meth c H locs 0 0 Q (F0 m 0 ls []) := by
    clear hH hlc
    refine lv_aload_n hx hb dX6_split_0 rfl (lv_at hl 0 rfl) ?_
    refine w_get hx hb hts hi6 hown hK hw 0 rfl rfl 5 (by decide) q0 rfl (v := .ref (o 17)) rfl dX6_split_1 ?_
    refine w_get hx hb hts hi3 hown hK hw 7 rfl rfl 3 (by decide) q1 rfl (v := .int (oR.1 3)) rfl dX6_split_4 ?_
    refine lv_if_ne (tgt := 13) hx hb dX6_split_7 (by decide) (fun c1 => ?_) (fun c1 => ?_)
    · have hf := if_f c1 hf
      refine lv_aload_n hx hb dX6_split_13 rfl (lv_at hl 0 rfl) ?_
      refine w_get hx hb hts hi6 hown hK hw 0 rfl rfl 5 (by decide) q0 rfl (v := .ref (o 17)) rfl dX6_split_14 ?_
      refine w_get hx hb hts hi3 hown hK hw 7 rfl rfl 4 (by decide) q2 rfl (v := .int (oR.1 4)) rfl dX6_split_17 ?_
      refine lv_istore_n (lv' := [(1, .int (oR.1 4)), (0, .ref (o 0))]) hx hb dX6_split_20 rfl hl (by decide) rfl (fun ls hl => ?_)
      refine lv_aload_n hx hb dX6_split_21 rfl (lv_at hl 1 rfl) ?_
      refine w_get hx hb hts hi6 hown hK hw 0 rfl rfl 5 (by decide) q0 rfl (v := .ref (o 17)) rfl dX6_split_22 ?_
      obtain ⟨oR2, oG3, g4, hf⟩ := bn2_e hf
      have fr := fr_X6_X3_oR_oT_oB_oC_oG o cA oX oP oD oR oT oB oC oG oR2 oT oB oC oG3
      refine go_v (run_v (As := []) (rest := []) ⟨hx, hb, hml, hown, hts⟩ (k_X3_tellOffAnew l D cA tx ty o oR oT oB oC oG oR2 oG3 g4 H.size) (cwV 0 hts gX6_split_X3_tellOffAnew rfl rfl rfl hd_X3_tellOffAnew ⟨Nat.le_of_ble_eq_true rfl, Nat.le_of_ble_eq_true rfl⟩) fr hw hK hA hZo hZ (ci := 3) rfl rfl rfl rfl hl.1 rfl (Nat.le_of_ble_eq_true rfl) dX6_split_25 ⟨Nat.zero_le _, Nat.zero_le _⟩) fr hw hA (fun H locs hw => ?_)
      refine lv_aload_n hx hb dX6_split_28 rfl (lv_at hl 1 rfl) ?_
      refine lv_dup hx hb dX6_split_29 rfl ?_
      refine w_get hx hb hts hi6 hown hK hw 0 rfl rfl 8 (by decide) q3 rfl (v := .int (oX.1 8)) rfl dX6_split_30 ?_
      refine lv_iload_n hx hb dX6_split_33 rfl (lv_at hl 0 rfl) ?_
      refine lv_aload_n hx hb dX6_split_34 rfl (lv_at hl 1 rfl) ?_
      refine w_get hx hb hts hi6 hown hK hw 0 rfl rfl 5 (by decide) q0 rfl (v := .ref (o 17)) rfl dX6_split_35 ?_
      refine w_get hx hb hts hi3 hown hK hw 7 rfl rfl 4 (by decide) q2 rfl (v := .int (oR2.1 4)) rfl dX6_split_38 ?_
      refine lv_isub hx hb dX6_split_41 ?_
      refine lv_iadd hx hb dX6_split_42 ?_
      obtain ⟨y5, e6, hf⟩ := bn1_e hf
      refine w_nmi (sm1 e6) ?_
      refine w_put (ws' := (wX6 o cA ((sI oX 8 y5)) oP oD oR2 oT oB oC oG3)) hx hb hts hi6 tyX6 tyX6_ok nmX6 hown hK hw 0 rfl rfl 8 (by decide) q3 rfl rfl rfl rfl (Nat.le_of_ble_eq_true rfl) rfl dX6_split_43 (fun H locs hw => ?_)
      refine lv_aload_n hx hb dX6_split_46 rfl (lv_at hl 1 rfl) ?_
      refine w_get hx hb hts hi6 hown hK hw 0 rfl rfl 5 (by decide) q0 rfl (v := .ref (o 17)) rfl dX6_split_47 ?_
      refine w_get hx hb hts hi3 hown hK hw 7 rfl rfl 4 (by decide) q2 rfl (v := .int (oR2.1 4)) rfl dX6_split_50 ?_
      obtain ⟨e0_, e1_, e2_, e3_⟩ := sm4 hf
      exact hret _ _ _ _ _ (by rw [← e1_, ← e2_, ← e3_]; exact hw) e0_ (Or.inl rfl) dX6_split_53
    · have hf := if_t c1 hf
      refine lv_bipush (v := (-103)) hx hb dX6_split_10 (by decide) ?_
      obtain ⟨e0_, e1_, e2_, e3_⟩ := sm4 hf
      exact hret _ _ _ _ _ (by rw [← e1_, ← e2_, ← e3_]; exact hw) e0_ (Or.inl rfl) dX6_split_12
  rw [hH, hlc] at goal
  exact goal
abbrev rmX6_ring : Room := { frames := 5, cells := 0, slots := 0, locals := 111 }
theorem hd_X6_ring : yX6_ring.cls = RX6 ∧ yX6_ring.cls ≠ "java/lang/invoke/MethodHandle" ∧ yX6_ring.cls ≠ "java/lang/invoke/VarHandle" ∧ (parseMethodDescriptor yX6_ring.desc).map (fun d => d.parameters.length) = some 2 := by decide +kernel
set_option maxHeartbeats 4000000 in
set_option maxRecDepth 100000 in
theorem k_X6_ring (l : Launch) (D : va_G) (cA : ClassId) (tx ty : Nat) (o : Nat → Nat) (oX : St) (oP : St) (oD : St) (oR : St) (oT : St) (oB : St) (oC : St) (oG : St) (a1 : Int32) (a2 : Int32) (r : Int32) (oG' : St) (hf : f_X6_ring oR oB oG a1 a2 = some (r, oG')) : Mi l yX6_ring wsX6_ring rmX6_ring D cA (z_X tx ty) [.ref (o 0), .int a1, .int a2] (wX6 o cA oX oP oD oR oT oB oC oG) r (wX6 o cA oX oP oD oR oT oB oC oG') := by
  refine Mi.of (cc := cX6_ring) (maxL := 3) (ret := (some .int)) (plainFor_of_name (by decide)) rfl (Nat.le_of_ble_eq_true rfl) (Or.inl rfl) ?_
  intro p e s m below meth c A Q hx hb hml hown hts hK hA hZ hret ls hl hw
  replace hown : s.vm.findClass RX6 = some m.cls := hown
  have hl : lv_has ls 3 [(0, .ref (o 0)), (1, .int a1), (2, .int a2)] := hl
  have hZo := z_X_ok tx ty
  have hi6 : ∀ w ∈ wsX60, w ∈ wsX6_ring := fun w h => List.mem_cons_of_mem _ (List.mem_append_left _ (List.mem_append_left _ (List.mem_append_left _ (List.mem_append_right _ h))))
  have q0 := hts (.fieldLink RX6 53 "ArcRings" "kept" "LArcRings$Rings;") (by decide +kernel)
  unfold f_X6_ring at hf
  obtain ⟨H, hH⟩ : ∃ H, H = s.heap := ⟨_, rfl⟩
  obtain ⟨locs, hlc⟩ : ∃ locs : List Loc, locs = [] := ⟨_, rfl⟩
  have hw : Wd D A s.heap H locs (wX6 o cA oX oP oD oR oT oB oC oG) := by rw [hH, hlc]; exact hw
  have goal : W p l e rmX6_ring s m ([.ref (o 0), .int a1, .int a2] : List Value).toArray below meth c H locs 0 0 Q (F0 m 0 ls []) := by
    clear hH hlc
    refine lv_aload_n hx hb dX6_ring_0 rfl (lv_at hl 0 rfl) ?_
    refine w_get hx hb hts hi6 hown hK hw 0 rfl rfl 5 (by decide) q0 rfl (v := .ref (o 17)) rfl dX6_ring_1 ?_
    refine lv_iload_n hx hb dX6_ring_4 rfl (lv_at hl 1 rfl) ?_
    obtain ⟨x1, g2, hf⟩ := bn1_e hf
    have fr := fr_X6_X3_oR_oT_oB_oC_oG o cA oX oP oD oR oT oB oC oG oR oT oB oC oG
    refine go_i (run_v (As := [.int a1]) (rest := []) ⟨hx, hb, hml, hown, hts⟩ (k_X3_has l D cA tx ty o oR oT oB oC oG a1 x1 g2 H.size) (cwV 1 hts gX6_ring_X3_has rfl rfl rfl hd_X3_has ⟨Nat.le_of_ble_eq_true rfl, Nat.le_of_ble_eq_true rfl⟩) fr hw hK hA hZo hZ (ci := 3) rfl rfl rfl rfl hl.1 rfl (Nat.le_of_ble_eq_true rfl) dX6_ring_5 ⟨Nat.zero_le _, Nat.zero_le _⟩) fr hw hA (fun H locs hw => ?_)
    refine lv_if_ne (tgt := 14) hx hb dX6_ring_8 (by decide) (fun c3 => ?_) (fun c3 => ?_)
    · have hf := if_f c3 hf
      refine lv_aload_n hx hb dX6_ring_14 rfl (lv_at hl 0 rfl) ?_
      refine w_get hx hb hts hi6 hown hK hw 0 rfl rfl 5 (by decide) q0 rfl (v := .ref (o 17)) rfl dX6_ring_15 ?_
      refine lv_iload_n hx hb dX6_ring_18 rfl (lv_at hl 1 rfl) ?_
      refine lv_iload_n hx hb dX6_ring_19 rfl (lv_at hl 2 rfl) ?_
      obtain ⟨x4, oG5, g6, hf⟩ := bn2_e hf
      have fr := fr_X6_X3_oR_oT_oB_oC_oG o cA oX oP oD oR oT oB oC oG oR oT oB oC oG5
      refine go_i (run_v (As := [.int a1, .int a2]) (rest := []) ⟨hx, hb, hml, hown, hts⟩ (k_X3_tell l D cA tx ty o oR oT oB oC oG a1 a2 x4 oG5 g6 H.size) (cwV 2 hts gX6_ring_X3_tell rfl rfl rfl hd_X3_tell ⟨Nat.le_of_ble_eq_true rfl, Nat.le_of_ble_eq_true rfl⟩) fr hw hK hA hZo hZ (ci := 3) rfl rfl rfl rfl hl.1 rfl (Nat.le_of_ble_eq_true rfl) dX6_ring_20 ⟨Nat.zero_le _, Nat.zero_le _⟩) fr hw hA (fun H locs hw => ?_)
      obtain ⟨e0_, e1_⟩ := sm2 hf
      exact hret _ _ _ _ _ (by rw [← e1_]; exact hw) e0_ (Or.inl rfl) dX6_ring_23
    · have hf := if_t c3 hf
      refine lv_bipush (v := (-101)) hx hb dX6_ring_11 (by decide) ?_
      obtain ⟨e0_, e1_⟩ := sm2 hf
      exact hret _ _ _ _ _ (by rw [← e1_]; exact hw) e0_ (Or.inl rfl) dX6_ring_13
  rw [hH, hlc] at goal
  exact goal
abbrev rmX6_as : Room := { frames := 4, cells := 0, slots := 0, locals := 89 }
theorem hd_X6_as : yX6_as.cls = RX6 ∧ yX6_as.cls ≠ "java/lang/invoke/MethodHandle" ∧ yX6_as.cls ≠ "java/lang/invoke/VarHandle" ∧ (parseMethodDescriptor yX6_as.desc).map (fun d => d.parameters.length) = some 2 := by decide +kernel
set_option maxHeartbeats 4000000 in
set_option maxRecDepth 100000 in
theorem k_X6_as (l : Launch) (D : va_G) (cA : ClassId) (tx ty : Nat) (o : Nat → Nat) (oX : St) (oP : St) (oD : St) (oR : St) (oT : St) (oB : St) (oC : St) (oG : St) (a1 : Int32) (a2 : Int32) (r : Int32) (oG' : St) (hf : f_X6_as oR oB oG a1 a2 = some (r, oG')) : Mi l yX6_as wsX6_as rmX6_as D cA (z_X tx ty) [.ref (o 0), .int a1, .int a2] (wX6 o cA oX oP oD oR oT oB oC oG) r (wX6 o cA oX oP oD oR oT oB oC oG') := by
  refine Mi.of (cc := cX6_as) (maxL := 3) (ret := (some .int)) (plainFor_of_name (by decide)) rfl (Nat.le_of_ble_eq_true rfl) (Or.inl rfl) ?_
  intro p e s m below meth c A Q hx hb hml hown hts hK hA hZ hret ls hl hw
  replace hown : s.vm.findClass RX6 = some m.cls := hown
  have hl : lv_has ls 3 [(0, .ref (o 0)), (1, .int a1), (2, .int a2)] := hl
  have hZo := z_X_ok tx ty
  have hi6 : ∀ w ∈ wsX60, w ∈ wsX6_as := fun w h => List.mem_cons_of_mem _ (List.mem_append_left _ (List.mem_append_left _ (List.mem_append_left _ (List.mem_append_right _ h))))
  have q0 := hts (.fieldLink RX6 53 "ArcRings" "kept" "LArcRings$Rings;") (by decide +kernel)
  unfold f_X6_as at hf
  obtain ⟨H, hH⟩ : ∃ H, H = s.heap := ⟨_, rfl⟩
  obtain ⟨locs, hlc⟩ : ∃ locs : List Loc, locs = [] := ⟨_, rfl⟩
  have hw : Wd D A s.heap H locs (wX6 o cA oX oP oD oR oT oB oC oG) := by rw [hH, hlc]; exact hw
  have goal : W p l e rmX6_as s m ([.ref (o 0), .int a1, .int a2] : List Value).toArray below meth c H locs 0 0 Q (F0 m 0 ls []) := by
    clear hH hlc
    refine lv_aload_n hx hb dX6_as_0 rfl (lv_at hl 0 rfl) ?_
    refine w_get hx hb hts hi6 hown hK hw 0 rfl rfl 5 (by decide) q0 rfl (v := .ref (o 17)) rfl dX6_as_1 ?_
    refine lv_iload_n hx hb dX6_as_4 rfl (lv_at hl 1 rfl) ?_
    obtain ⟨x1, g2, hf⟩ := bn1_e hf
    have fr := fr_X6_X3_oR_oT_oB_oC_oG o cA oX oP oD oR oT oB oC oG oR oT oB oC oG
    refine go_i (run_v (As := [.int a1]) (rest := []) ⟨hx, hb, hml, hown, hts⟩ (k_X3_has l D cA tx ty o oR oT oB oC oG a1 x1 g2 H.size) (cwV 1 hts gX6_as_X3_has rfl rfl rfl hd_X3_has ⟨Nat.le_of_ble_eq_true rfl, Nat.le_of_ble_eq_true rfl⟩) fr hw hK hA hZo hZ (ci := 3) rfl rfl rfl rfl hl.1 rfl (Nat.le_of_ble_eq_true rfl) dX6_as_5 ⟨Nat.zero_le _, Nat.zero_le _⟩) fr hw hA (fun H locs hw => ?_)
    refine lv_if_ne (tgt := 14) hx hb dX6_as_8 (by decide) (fun c3 => ?_) (fun c3 => ?_)
    · have hf := if_f c3 hf
      refine lv_iload_n hx hb dX6_as_14 rfl (lv_at hl 2 rfl) ?_
      refine lv_if_lt (tgt := 23) hx hb dX6_as_15 (by decide) (fun c4 => ?_) (fun c4 => ?_)
      · have hf := if_t c4 hf
        refine lv_bipush (v := (-102)) hx hb dX6_as_23 (by decide) ?_
        obtain ⟨e0_, e1_⟩ := sm2 hf
        exact hret _ _ _ _ _ (by rw [← e1_]; exact hw) e0_ (Or.inl rfl) dX6_as_25
      · have hf := if_f c4 hf
        refine lv_iload_n hx hb dX6_as_18 rfl (lv_at hl 2 rfl) ?_
        refine lv_iconst (v := 1) hx hb dX6_as_19 (by decide) ?_
        refine lv_icmp_le (tgt := 26) hx hb dX6_as_20 (by decide) (fun c5 => ?_) (fun c5 => ?_)
        · have hf := if_t c5 hf
          refine lv_aload_n hx hb dX6_as_26 rfl (lv_at hl 0 rfl) ?_
          refine w_get hx hb hts hi6 hown hK hw 0 rfl rfl 5 (by decide) q0 rfl (v := .ref (o 17)) rfl dX6_as_27 ?_
          refine lv_iload_n hx hb dX6_as_30 rfl (lv_at hl 1 rfl) ?_
          obtain ⟨x6, oG7, g8, hf⟩ := bn2_e hf
          have fr := fr_X6_X3_oR_oT_oB_oC_oG o cA oX oP oD oR oT oB oC oG oR oT oB oC oG7
          refine go_i (run_v (As := [.int a1]) (rest := []) ⟨hx, hb, hml, hown, hts⟩ (k_X3_kindOf l D cA tx ty o oR oT oB oC oG a1 x6 oG7 g8 H.size) (cwV 1 hts gX6_as_X3_kindOf rfl rfl rfl hd_X3_kindOf ⟨Nat.le_of_ble_eq_true rfl, Nat.le_of_ble_eq_true rfl⟩) fr hw hK hA hZo hZ (ci := 3) rfl rfl rfl rfl hl.1 rfl (Nat.le_of_ble_eq_true rfl) dX6_as_31 ⟨Nat.zero_le _, Nat.zero_le _⟩) fr hw hA (fun H locs hw => ?_)
          refine lv_iload_n hx hb dX6_as_34 rfl (lv_at hl 2 rfl) ?_
          refine lv_icmp_ne (tgt := 42) hx hb dX6_as_35 (by decide) (fun c9 => ?_) (fun c9 => ?_)
          · have hf := if_f c9 hf
            refine lv_iconst (v := (-1)) hx hb dX6_as_42 (by decide) ?_
            obtain ⟨e0_, e1_⟩ := sm2 hf
            exact hret _ _ _ _ _ (by rw [← e1_]; exact hw) e0_ (Or.inl rfl) dX6_as_43
          · have hf := if_t c9 hf
            refine lv_iload_n hx hb dX6_as_38 rfl (lv_at hl 1 rfl) ?_
            refine lv_goto (tgt := 43) hx hb dX6_as_39 (by decide) ?_
            obtain ⟨e0_, e1_⟩ := sm2 hf
            exact hret _ _ _ _ _ (by rw [← e1_]; exact hw) e0_ (Or.inl rfl) dX6_as_43
        · have hf := if_f c5 hf
          refine lv_bipush (v := (-102)) hx hb dX6_as_23 (by decide) ?_
          obtain ⟨e0_, e1_⟩ := sm2 hf
          exact hret _ _ _ _ _ (by rw [← e1_]; exact hw) e0_ (Or.inl rfl) dX6_as_25
    · have hf := if_t c3 hf
      refine lv_bipush (v := (-101)) hx hb dX6_as_11 (by decide) ?_
      obtain ⟨e0_, e1_⟩ := sm2 hf
      exact hret _ _ _ _ _ (by rw [← e1_]; exact hw) e0_ (Or.inl rfl) dX6_as_13
  rw [hH, hlc] at goal
  exact goal
abbrev rmX6_cross : Room := { frames := 2, cells := 0, slots := 0, locals := 47 }
theorem hd_X6_cross : yX6_cross.cls = RX6 ∧ yX6_cross.cls ≠ "java/lang/invoke/MethodHandle" ∧ yX6_cross.cls ≠ "java/lang/invoke/VarHandle" ∧ (parseMethodDescriptor yX6_cross.desc).map (fun d => d.parameters.length) = some 2 := by decide +kernel
set_option maxHeartbeats 4000000 in
set_option maxRecDepth 100000 in
theorem k_X6_cross (l : Launch) (D : va_G) (cA : ClassId) (tx ty : Nat) (o : Nat → Nat) (oX : St) (oP : St) (oD : St) (oR : St) (oT : St) (oB : St) (oC : St) (oG : St) (a1 : Int32) (a2 : Int32) (r : Int32) (hf : f_X6_cross oR a1 a2 = some (r)) : Mi l yX6_cross wsX6_cross rmX6_cross D cA (z_X tx ty) [.ref (o 0), .int a1, .int a2] (wX6 o cA oX oP oD oR oT oB oC oG) r (wX6 o cA oX oP oD oR oT oB oC oG) := by
  refine Mi.of (cc := cX6_cross) (maxL := 3) (ret := (some .int)) (plainFor_of_name (by decide)) rfl (Nat.le_of_ble_eq_true rfl) (Or.inl rfl) ?_
  intro p e s m below meth c A Q hx hb hml hown hts hK hA hZ hret ls hl hw
  replace hown : s.vm.findClass RX6 = some m.cls := hown
  have hl : lv_has ls 3 [(0, .ref (o 0)), (1, .int a1), (2, .int a2)] := hl
  have hZo := z_X_ok tx ty
  have hi6 : ∀ w ∈ wsX60, w ∈ wsX6_cross := fun w h => List.mem_cons_of_mem _ (List.mem_append_left _ (List.mem_append_right _ h))
  have q0 := hts (.fieldLink RX6 53 "ArcRings" "kept" "LArcRings$Rings;") (by decide +kernel)
  unfold f_X6_cross at hf
  obtain ⟨H, hH⟩ : ∃ H, H = s.heap := ⟨_, rfl⟩
  obtain ⟨locs, hlc⟩ : ∃ locs : List Loc, locs = [] := ⟨_, rfl⟩
  have hw : Wd D A s.heap H locs (wX6 o cA oX oP oD oR oT oB oC oG) := by rw [hH, hlc]; exact hw
  have goal : W p l e rmX6_cross s m ([.ref (o 0), .int a1, .int a2] : List Value).toArray below meth c H locs 0 0 Q (F0 m 0 ls []) := by
    clear hH hlc
    refine lv_aload_n hx hb dX6_cross_0 rfl (lv_at hl 0 rfl) ?_
    refine w_get hx hb hts hi6 hown hK hw 0 rfl rfl 5 (by decide) q0 rfl (v := .ref (o 17)) rfl dX6_cross_1 ?_
    refine lv_iload_n hx hb dX6_cross_4 rfl (lv_at hl 1 rfl) ?_
    obtain ⟨x1, g2, hf⟩ := bn1_e hf
    have fr := fr_X6_X3_oR_oT_oB_oC_oG o cA oX oP oD oR oT oB oC oG oR oT oB oC oG
    refine go_i (run_v (As := [.int a1]) (rest := []) ⟨hx, hb, hml, hown, hts⟩ (k_X3_has l D cA tx ty o oR oT oB oC oG a1 x1 g2 H.size) (cwV 1 hts gX6_cross_X3_has rfl rfl rfl hd_X3_has ⟨Nat.le_of_ble_eq_true rfl, Nat.le_of_ble_eq_true rfl⟩) fr hw hK hA hZo hZ (ci := 3) rfl rfl rfl rfl hl.1 rfl (Nat.le_of_ble_eq_true rfl) dX6_cross_5 ⟨Nat.zero_le _, Nat.zero_le _⟩) fr hw hA (fun H locs hw => ?_)
    refine lv_if_eq (tgt := 27) hx hb dX6_cross_8 (by decide) (fun c3 => ?_) (fun c3 => ?_)
    · have hf := if_t c3 hf
      refine lv_bipush (v := (-101)) hx hb dX6_cross_27 (by decide) ?_
      have e0_ := sm1 hf
      exact hret _ _ _ _ _ hw e0_ (Or.inl rfl) dX6_cross_29
    · have hf := if_f c3 hf
      refine lv_aload_n hx hb dX6_cross_11 rfl (lv_at hl 0 rfl) ?_
      refine w_get hx hb hts hi6 hown hK hw 0 rfl rfl 5 (by decide) q0 rfl (v := .ref (o 17)) rfl dX6_cross_12 ?_
      refine lv_iload_n hx hb dX6_cross_15 rfl (lv_at hl 2 rfl) ?_
      obtain ⟨x4, g5, hf⟩ := bn1_e hf
      have fr := fr_X6_X3_oR_oT_oB_oC_oG o cA oX oP oD oR oT oB oC oG oR oT oB oC oG
      refine go_i (run_v (As := [.int a2]) (rest := []) ⟨hx, hb, hml, hown, hts⟩ (k_X3_has l D cA tx ty o oR oT oB oC oG a2 x4 g5 H.size) (cwV 1 hts gX6_cross_X3_has rfl rfl rfl hd_X3_has ⟨Nat.le_of_ble_eq_true rfl, Nat.le_of_ble_eq_true rfl⟩) fr hw hK hA hZo hZ (ci := 3) rfl rfl rfl rfl hl.1 rfl (Nat.le_of_ble_eq_true rfl) dX6_cross_16 ⟨Nat.zero_le _, Nat.zero_le _⟩) fr hw hA (fun H locs hw => ?_)
      refine lv_if_eq (tgt := 27) hx hb dX6_cross_19 (by decide) (fun c6 => ?_) (fun c6 => ?_)
      · have hf := if_t c6 hf
        refine lv_bipush (v := (-101)) hx hb dX6_cross_27 (by decide) ?_
        have e0_ := sm1 hf
        exact hret _ _ _ _ _ hw e0_ (Or.inl rfl) dX6_cross_29
      · have hf := if_f c6 hf
        refine lv_iload_n hx hb dX6_cross_22 rfl (lv_at hl 1 rfl) ?_
        refine lv_iload_n hx hb dX6_cross_23 rfl (lv_at hl 2 rfl) ?_
        refine lv_icmp_ne (tgt := 30) hx hb dX6_cross_24 (by decide) (fun c7 => ?_) (fun c7 => ?_)
        · have hf := if_f c7 hf
          refine lv_aload_n hx hb dX6_cross_30 rfl (lv_at hl 0 rfl) ?_
          refine w_get hx hb hts hi6 hown hK hw 0 rfl rfl 5 (by decide) q0 rfl (v := .ref (o 17)) rfl dX6_cross_31 ?_
          refine lv_iload_n hx hb dX6_cross_34 rfl (lv_at hl 1 rfl) ?_
          refine lv_iload_n hx hb dX6_cross_35 rfl (lv_at hl 2 rfl) ?_
          obtain ⟨x8, g9, hf⟩ := bn1_e hf
          have fr := fr_X6_X3_oR_oT_oB_oC_oG o cA oX oP oD oR oT oB oC oG oR oT oB oC oG
          refine go_i (run_v (As := [.int a1, .int a2]) (rest := []) ⟨hx, hb, hml, hown, hts⟩ (k_X3_areCrossing l D cA tx ty o oR oT oB oC oG a1 a2 x8 g9 H.size) (cwV 2 hts gX6_cross_X3_areCrossing rfl rfl rfl hd_X3_areCrossing ⟨Nat.le_of_ble_eq_true rfl, Nat.le_of_ble_eq_true rfl⟩) fr hw hK hA hZo hZ (ci := 3) rfl rfl rfl rfl hl.1 rfl (Nat.le_of_ble_eq_true rfl) dX6_cross_36 ⟨Nat.zero_le _, Nat.zero_le _⟩) fr hw hA (fun H locs hw => ?_)
          refine lv_if_eq (tgt := 46) hx hb dX6_cross_39 (by decide) (fun c10 => ?_) (fun c10 => ?_)
          · have hf := if_t c10 hf
            refine lv_iconst (v := 0) hx hb dX6_cross_46 (by decide) ?_
            have e0_ := sm1 hf
            exact hret _ _ _ _ _ hw e0_ (Or.inl rfl) dX6_cross_47
          · have hf := if_f c10 hf
            refine lv_iconst (v := 1) hx hb dX6_cross_42 (by decide) ?_
            refine lv_goto (tgt := 47) hx hb dX6_cross_43 (by decide) ?_
            have e0_ := sm1 hf
            exact hret _ _ _ _ _ hw e0_ (Or.inl rfl) dX6_cross_47
        · have hf := if_t c7 hf
          refine lv_bipush (v := (-101)) hx hb dX6_cross_27 (by decide) ?_
          have e0_ := sm1 hf
          exact hret _ _ _ _ _ hw e0_ (Or.inl rfl) dX6_cross_29
  rw [hH, hlc] at goal
  exact goal
abbrev rmX6_count : Room := { frames := 3, cells := 0, slots := 0, locals := 63 }
theorem hd_X6_count : yX6_count.cls = RX6 ∧ yX6_count.cls ≠ "java/lang/invoke/MethodHandle" ∧ yX6_count.cls ≠ "java/lang/invoke/VarHandle" ∧ (parseMethodDescriptor yX6_count.desc).map (fun d => d.parameters.length) = some 1 := by decide +kernel
set_option maxHeartbeats 4000000 in
set_option maxRecDepth 100000 in
theorem k_X6_count (l : Launch) (D : va_G) (cA : ClassId) (tx ty : Nat) (o : Nat → Nat) (oX : St) (oP : St) (oD : St) (oR : St) (oT : St) (oB : St) (oC : St) (oG : St) (a1 : Int32) (r : Int32) (hf : f_X6_count oX oP oR oB a1 = some (r)) : Mi l yX6_count wsX6_count rmX6_count D cA (z_X tx ty) [.ref (o 0), .int a1] (wX6 o cA oX oP oD oR oT oB oC oG) r (wX6 o cA oX oP oD oR oT oB oC oG) := by
  refine Mi.of (cc := cX6_count) (maxL := 2) (ret := (some .int)) (plainFor_of_name (by decide)) rfl (Nat.le_of_ble_eq_true rfl) (Or.inl rfl) ?_
  intro p e s m below meth c A Q hx hb hml hown hts hK hA hZ hret ls hl hw
  replace hown : s.vm.findClass RX6 = some m.cls := hown
  have hl : lv_has ls 2 [(0, .ref (o 0)), (1, .int a1)] := hl
  have hZo := z_X_ok tx ty
  have hi0 : ∀ w ∈ wsX00, w ∈ wsX6_count := fun w h => List.mem_cons_of_mem _ (List.mem_append_left _ (List.mem_append_left _ (List.mem_append_right _ h)))
  have hi2 : ∀ w ∈ wsX20, w ∈ wsX6_count := fun w h => List.mem_cons_of_mem _ (List.mem_append_right _ h)
  have hi3 : ∀ w ∈ wsX30, w ∈ wsX6_count := fun w h => List.mem_cons_of_mem _ (List.mem_append_left _ (List.mem_append_right _ h))
  have hi6 : ∀ w ∈ wsX60, w ∈ wsX6_count := fun w h => List.mem_cons_of_mem _ (List.mem_append_left _ (List.mem_append_left _ (List.mem_append_left _ (List.mem_append_right _ h))))
  have q0 := hts (.fieldLink RX6 19 "ArcRings" "board" "LArcRings$Board;") (by decide +kernel)
  have q1 := hts (.fieldLink RX6 85 "ArcRings$Board" "dots" "I") (by decide +kernel)
  have q2 := hts (.fieldLink RX6 53 "ArcRings" "kept" "LArcRings$Rings;") (by decide +kernel)
  have q3 := hts (.fieldLink RX6 220 "ArcRings$Rings" "size" "I") (by decide +kernel)
  have q4 := hts (.fieldLink RX6 10 "ArcRings" "page" "LArcRings$Page;") (by decide +kernel)
  have q5 := hts (.fieldLink RX6 57 "ArcRings$Page" "length" "I") (by decide +kernel)
  have q6 := hts (.fieldLink RX6 79 "ArcRings" "sheetsRead" "I") (by decide +kernel)
  have q7 := hts (.fieldLink RX6 217 "ArcRings" "timesHunted" "I") (by decide +kernel)
  have q8 := hts (.fieldLink RX6 228 "ArcRings" "givenUp" "I") (by decide +kernel)
  unfold f_X6_count at hf
  obtain ⟨H, hH⟩ : ∃ H, H = s.heap := ⟨_, rfl⟩
  obtain ⟨locs, hlc⟩ : ∃ locs : List Loc, locs = [] := ⟨_, rfl⟩
  have hw : Wd D A s.heap H locs (wX6 o cA oX oP oD oR oT oB oC oG) := by rw [hH, hlc]; exact hw
  have goal : W p l e rmX6_count s m ([.ref (o 0), .int a1] : List Value).toArray below meth c H locs 0 0 Q (F0 m 0 ls []) := by
    clear hH hlc
    refine lv_iload_n hx hb dX6_count_0 rfl (lv_at hl 1 rfl) ?_
    by_cases c1 : a1 = 0
    · have hf := if_t c1 hf
      refine lv_tableIn (tgt := 44) hx hb dX6_count_1 (by rw [c1]; decide) (by rw [c1]; decide) (by rw [c1]; rfl) (by decide) ?_
      refine lv_aload_n hx hb dX6_count_44 rfl (lv_at hl 0 rfl) ?_
      refine w_get hx hb hts hi6 hown hK hw 0 rfl rfl 1 (by decide) q0 rfl (v := .ref (o 7)) rfl dX6_count_45 ?_
      refine w_get hx hb hts hi0 hown hK hw 14 rfl rfl 2 (by decide) q1 rfl (v := .int (oB.1 2)) rfl dX6_count_48 ?_
      have e0_ := sm1 hf
      exact hret _ _ _ _ _ hw e0_ (Or.inl rfl) dX6_count_51
    have hf := if_f c1 hf
    by_cases c2 : a1 = 1
    · have hf := if_t c2 hf
      refine lv_tableIn (tgt := 52) hx hb dX6_count_1 (by rw [c2]; decide) (by rw [c2]; decide) (by rw [c2]; rfl) (by decide) ?_
      refine lv_aload_n hx hb dX6_count_52 rfl (lv_at hl 0 rfl) ?_
      refine w_get hx hb hts hi6 hown hK hw 0 rfl rfl 5 (by decide) q2 rfl (v := .ref (o 17)) rfl dX6_count_53 ?_
      refine w_get hx hb hts hi3 hown hK hw 7 rfl rfl 4 (by decide) q3 rfl (v := .int (oR.1 4)) rfl dX6_count_56 ?_
      have e0_ := sm1 hf
      exact hret _ _ _ _ _ hw e0_ (Or.inl rfl) dX6_count_59
    have hf := if_f c2 hf
    by_cases c3 : a1 = 2
    · have hf := if_t c3 hf
      refine lv_tableIn (tgt := 60) hx hb dX6_count_1 (by rw [c3]; decide) (by rw [c3]; decide) (by rw [c3]; rfl) (by decide) ?_
      refine lv_aload_n hx hb dX6_count_60 rfl (lv_at hl 0 rfl) ?_
      refine w_get hx hb hts hi6 hown hK hw 0 rfl rfl 5 (by decide) q2 rfl (v := .ref (o 17)) rfl dX6_count_61 ?_
      obtain ⟨x4, g5, hf⟩ := bn1_e hf
      have fr := fr_X6_X3_oR_oT_oB_oC_oG o cA oX oP oD oR oT oB oC oG oR oT oB oC oG
      refine go_i (run_v (As := []) (rest := []) ⟨hx, hb, hml, hown, hts⟩ (k_X3_ownedDots l D cA tx ty o oR oT oB oC oG x4 g5 H.size) (cwV 0 hts gX6_count_X3_ownedDots rfl rfl rfl hd_X3_ownedDots ⟨Nat.le_of_ble_eq_true rfl, Nat.le_of_ble_eq_true rfl⟩) fr hw hK hA hZo hZ (ci := 3) rfl rfl rfl rfl hl.1 rfl (Nat.le_of_ble_eq_true rfl) dX6_count_64 ⟨Nat.zero_le _, Nat.zero_le _⟩) fr hw hA (fun H locs hw => ?_)
      have e0_ := sm1 hf
      exact hret _ _ _ _ _ hw e0_ (Or.inl rfl) dX6_count_67
    have hf := if_f c3 hf
    by_cases c6 : a1 = 3
    · have hf := if_t c6 hf
      refine lv_tableIn (tgt := 68) hx hb dX6_count_1 (by rw [c6]; decide) (by rw [c6]; decide) (by rw [c6]; rfl) (by decide) ?_
      refine lv_aload_n hx hb dX6_count_68 rfl (lv_at hl 0 rfl) ?_
      refine w_get hx hb hts hi6 hown hK hw 0 rfl rfl 0 (by decide) q4 rfl (v := .ref (o 1)) rfl dX6_count_69 ?_
      refine w_get hx hb hts hi2 hown hK hw 1 rfl rfl 1 (by decide) q5 rfl (v := .int (oP.1 1)) rfl dX6_count_72 ?_
      have e0_ := sm1 hf
      exact hret _ _ _ _ _ hw e0_ (Or.inl rfl) dX6_count_75
    have hf := if_f c6 hf
    by_cases c7 : a1 = 4
    · have hf := if_t c7 hf
      refine lv_tableIn (tgt := 76) hx hb dX6_count_1 (by rw [c7]; decide) (by rw [c7]; decide) (by rw [c7]; rfl) (by decide) ?_
      refine lv_aload_n hx hb dX6_count_76 rfl (lv_at hl 0 rfl) ?_
      refine w_get hx hb hts hi6 hown hK hw 0 rfl rfl 6 (by decide) q6 rfl (v := .int (oX.1 6)) rfl dX6_count_77 ?_
      have e0_ := sm1 hf
      exact hret _ _ _ _ _ hw e0_ (Or.inl rfl) dX6_count_80
    have hf := if_f c7 hf
    by_cases c8 : a1 = 5
    · have hf := if_t c8 hf
      refine lv_tableIn (tgt := 81) hx hb dX6_count_1 (by rw [c8]; decide) (by rw [c8]; decide) (by rw [c8]; rfl) (by decide) ?_
      refine lv_aload_n hx hb dX6_count_81 rfl (lv_at hl 0 rfl) ?_
      refine w_get hx hb hts hi6 hown hK hw 0 rfl rfl 7 (by decide) q7 rfl (v := .int (oX.1 7)) rfl dX6_count_82 ?_
      have e0_ := sm1 hf
      exact hret _ _ _ _ _ hw e0_ (Or.inl rfl) dX6_count_85
    have hf := if_f c8 hf
    by_cases c9 : a1 = 6
    · have hf := if_t c9 hf
      refine lv_tableIn (tgt := 86) hx hb dX6_count_1 (by rw [c9]; decide) (by rw [c9]; decide) (by rw [c9]; rfl) (by decide) ?_
      refine lv_aload_n hx hb dX6_count_86 rfl (lv_at hl 0 rfl) ?_
      refine w_get hx hb hts hi6 hown hK hw 0 rfl rfl 8 (by decide) q8 rfl (v := .int (oX.1 8)) rfl dX6_count_87 ?_
      have e0_ := sm1 hf
      exact hret _ _ _ _ _ hw e0_ (Or.inl rfl) dX6_count_90
    have hf := if_f c9 hf
    refine lv_tableOut (tgt := 91) hx hb dX6_count_1 (w_out (n := 7) (by decide) (fun k hk => ?_)) (by decide) ?_
    · match k, hk with
      | 0, _ => exact c1
      | 1, _ => exact c2
      | 2, _ => exact c3
      | 3, _ => exact c6
      | 4, _ => exact c7
      | 5, _ => exact c8
      | 6, _ => exact c9
      | k + 7, hk => omega
    refine lv_bipush (v := (-102)) hx hb dX6_count_91 (by decide) ?_
    have e0_ := sm1 hf
    exact hret _ _ _ _ _ hw e0_ (Or.inl rfl) dX6_count_93
  rw [hH, hlc] at goal
  exact goal
abbrev rmX6_withDots : Room := { frames := 2, cells := 0, slots := 0, locals := 44 }
theorem hd_X6_withDots : yX6_withDots.cls = RX6 ∧ yX6_withDots.cls ≠ "java/lang/invoke/MethodHandle" ∧ yX6_withDots.cls ≠ "java/lang/invoke/VarHandle" ∧ (parseMethodDescriptor yX6_withDots.desc).map (fun d => d.parameters.length) = some 1 := by decide +kernel
set_option maxHeartbeats 4000000 in
set_option maxRecDepth 100000 in
theorem k_X6_withDots (l : Launch) (D : va_G) (cA : ClassId) (tx ty : Nat) (o : Nat → Nat) (oX : St) (oP : St) (oD : St) (oR : St) (oT : St) (oB : St) (oC : St) (oG : St) (a1 : Int64) (r : Int64) (hf : f_X6_withDots oR oB a1 = some (r)) : Ml l yX6_withDots wsX6_withDots rmX6_withDots D cA (z_X tx ty) [.ref (o 0), .long a1] (wX6 o cA oX oP oD oR oT oB oC oG) r (wX6 o cA oX oP oD oR oT oB oC oG) := by
  refine Ml.of (cc := cX6_withDots) (maxL := 7) (by decide) rfl (Nat.le_of_ble_eq_true rfl) ?_
  intro p e s m below meth c A Q hx hb hml hown hts hK hA hZ hret ls hl hw
  replace hown : s.vm.findClass RX6 = some m.cls := hown
  have hl : lv_has ls 7 [(0, .ref (o 0)), (1, .long a1)] := hl
  have hZo := z_X_ok tx ty
  have hi0 : ∀ w ∈ wsX00, w ∈ wsX6_withDots := fun w h => List.mem_cons_of_mem _ (List.mem_append_left _ (List.mem_append_right _ h))
  have hi6 : ∀ w ∈ wsX60, w ∈ wsX6_withDots := fun w h => List.mem_cons_of_mem _ (List.mem_append_left _ (List.mem_append_left _ (List.mem_append_right _ h)))
  have q0 := hts (.constantLong RX6 254 31) (by decide +kernel)
  have q1 := hts (.fieldLink RX6 19 "ArcRings" "board" "LArcRings$Board;") (by decide +kernel)
  have q2 := hts (.fieldLink RX6 85 "ArcRings$Board" "dots" "I") (by decide +kernel)
  have h_L5 : ∀ (K : Int64 → Option (Int64)), (∀ (z0 : Int64), K z0 = some (r) → ∀ (H : Heap) (locs : List Loc) (ls : Array Slot), Wd D A s.heap H locs (wX6 o cA oX oP oD oR oT oB oC oG) → lv_has ls 7 [(0, .ref (o 0)), (3, .long z0)] → W p l e rmX6_withDots s m ([.ref (o 0), .long a1] : List Value).toArray below meth c H locs 0 0 Q (F0 m 32 ls [])) → ∀ (n : Nat) (v3 : Int64) (v5 : Int32), f_X6_withDots_L5 oB K n v3 v5 = some (r) → ∀ (H : Heap) (locs : List Loc) (ls : Array Slot), Wd D A s.heap H locs (wX6 o cA oX oP oD oR oT oB oC oG) → lv_has ls 7 [(0, .ref (o 0)), (3, .long v3), (5, .int v5)] → W p l e rmX6_withDots s m ([.ref (o 0), .long a1] : List Value).toArray below meth c H locs 0 0 Q (F0 m 5 ls []) := by
    intro K hK9 n
    induction n with
    | zero =>
      intro v3 v5 hf
      have hf : none = some (r) := hf
      cases hf
    | succ n ih =>
      intro v3 v5 hf H locs ls hw hl
      have hf := (f_X6_withDots_L5_s oB K n v3 v5).symm.trans hf
      refine lv_iload hx hb dX6_withDots_5 (lv_at hl 2 rfl) ?_
      refine lv_bipush (v := 7) hx hb dX6_withDots_7 (by decide) ?_
      refine lv_icmp_gt (tgt := 32) hx hb dX6_withDots_9 (by decide) (fun c1 => ?_) (fun c1 => ?_)
      · have hf := if_t c1 hf
        exact hK9 v3 hf H locs ls hw (lv_sub hl [0, 1] rfl)
      · have hf := if_f c1 hf
        refine lv_ldc2 hx hb hown q0 dX6_withDots_12 ?_
        refine lv_lload_n hx hb dX6_withDots_15 rfl (lv_at hl 1 rfl) ?_
        refine lv_lmul hx hb dX6_withDots_16 ?_
        refine lv_aload_n hx hb dX6_withDots_17 rfl (lv_at hl 0 rfl) ?_
        refine lv_iload hx hb dX6_withDots_18 (lv_at hl 2 rfl) ?_
        obtain ⟨x2, g3, hf⟩ := bn1_e hf
        have fr := fr_X6_X6_oX_oP_oD_oR_oT_oB_oC_oG o cA oX oP oD oR oT oB oC oG oX oP oD oR oT oB oC oG
        refine go_i (run_v (As := [.int v5]) (rest := [.long (31 * v3)]) ⟨hx, hb, hml, hown, hts⟩ (k_X6_about l D cA tx ty o oX oP oD oR oT oB oC oG v5 x2 g3 H.size) (cwV 1 hts gX6_withDots_X6_about rfl rfl rfl hd_X6_about ⟨Nat.le_of_ble_eq_true rfl, Nat.le_of_ble_eq_true rfl⟩) fr hw hK hA hZo hZ (ci := 6) rfl rfl rfl rfl hl.1 rfl (Nat.le_of_ble_eq_true rfl) dX6_withDots_20 ⟨Nat.zero_le _, Nat.zero_le _⟩) fr hw hA (fun H locs hw => ?_)
        refine lv_i2l (v := (x2 : Int32).toInt64) hx hb dX6_withDots_23 rfl ?_
        refine lv_ladd hx hb dX6_withDots_24 ?_
        obtain ⟨y4, e5, hf⟩ := bn1_e hf
        refine w_nml (sm1 e5) ?_
        refine lv_lstore_n (lv' := [(3, .long y4), (0, .ref (o 0)), (5, .int v5)]) hx hb dX6_withDots_25 rfl hl (by decide) rfl (fun ls hl => ?_)
        refine lv_iinc (v := v5 + 1) (lv' := [(5, .int (v5 + 1)), (3, .long y4), (0, .ref (o 0))]) hx hb dX6_withDots_26 hl (k := 2) rfl (by rfl) (by decide) rfl (fun ls hl => ?_)
        refine lv_goto (tgt := 5) hx hb dX6_withDots_29 (by decide) ?_
        exact ih y4 (v5 + 1) hf H locs ls hw (lv_sub hl [2, 1, 0] rfl)
  have h_L50 : ∀ (v5 : Int32) (K : Int64 → Option (Int64)), (∀ (z0 : Int64), K z0 = some (r) → ∀ (H : Heap) (locs : List Loc) (ls : Array Slot), Wd D A s.heap H locs (wX6 o cA oX oP oD oR oT oB oC oG) → lv_has ls 7 [(0, .ref (o 0)), (3, .long z0), (5, .int v5)] → W p l e rmX6_withDots s m ([.ref (o 0), .long a1] : List Value).toArray below meth c H locs 0 0 Q (F0 m 78 ls [])) → ∀ (n : Nat) (v3 : Int64) (v6 : Int32), f_X6_withDots_L50 oR oB v5 K n v3 v6 = some (r) → ∀ (H : Heap) (locs : List Loc) (ls : Array Slot), Wd D A s.heap H locs (wX6 o cA oX oP oD oR oT oB oC oG) → lv_has ls 7 [(0, .ref (o 0)), (3, .long v3), (5, .int v5), (6, .int v6)] → W p l e rmX6_withDots s m ([.ref (o 0), .long a1] : List Value).toArray below meth c H locs 0 0 Q (F0 m 50 ls []) := by
    intro v5 K hK9 n
    induction n with
    | zero =>
      intro v3 v6 hf
      have hf : none = some (r) := hf
      cases hf
    | succ n ih =>
      intro v3 v6 hf H locs ls hw hl
      have hf := (f_X6_withDots_L50_s oR oB v5 K n v3 v6).symm.trans hf
      refine lv_iload hx hb dX6_withDots_50 (lv_at hl 3 rfl) ?_
      refine lv_iconst (v := 3) hx hb dX6_withDots_52 (by decide) ?_
      refine lv_icmp_gt (tgt := 78) hx hb dX6_withDots_53 (by decide) (fun c8 => ?_) (fun c8 => ?_)
      · have hf := if_t c8 hf
        exact hK9 v3 hf H locs ls hw (lv_sub hl [0, 1, 2] rfl)
      · have hf := if_f c8 hf
        refine lv_ldc2 hx hb hown q0 dX6_withDots_56 ?_
        refine lv_lload_n hx hb dX6_withDots_59 rfl (lv_at hl 1 rfl) ?_
        refine lv_lmul hx hb dX6_withDots_60 ?_
        refine lv_aload_n hx hb dX6_withDots_61 rfl (lv_at hl 0 rfl) ?_
        refine lv_iload hx hb dX6_withDots_62 (lv_at hl 2 rfl) ?_
        refine lv_iload hx hb dX6_withDots_64 (lv_at hl 3 rfl) ?_
        obtain ⟨x9, g10, hf⟩ := bn1_e hf
        have fr := fr_X6_X6_oX_oP_oD_oR_oT_oB_oC_oG o cA oX oP oD oR oT oB oC oG oX oP oD oR oT oB oC oG
        refine go_i (run_v (As := [.int v5, .int v6]) (rest := [.long (31 * v3)]) ⟨hx, hb, hml, hown, hts⟩ (k_X6_told l D cA tx ty o oX oP oD oR oT oB oC oG v5 v6 x9 g10 H.size) (cwV 2 hts gX6_withDots_X6_told rfl rfl rfl hd_X6_told ⟨Nat.le_of_ble_eq_true rfl, Nat.le_of_ble_eq_true rfl⟩) fr hw hK hA hZo hZ (ci := 6) rfl rfl rfl rfl hl.1 rfl (Nat.le_of_ble_eq_true rfl) dX6_withDots_66 ⟨Nat.zero_le _, Nat.zero_le _⟩) fr hw hA (fun H locs hw => ?_)
        refine lv_i2l (v := (x9 : Int32).toInt64) hx hb dX6_withDots_69 rfl ?_
        refine lv_ladd hx hb dX6_withDots_70 ?_
        obtain ⟨y11, e12, hf⟩ := bn1_e hf
        refine w_nml (sm1 e12) ?_
        refine lv_lstore_n (lv' := [(3, .long y11), (0, .ref (o 0)), (5, .int v5), (6, .int v6)]) hx hb dX6_withDots_71 rfl hl (by decide) rfl (fun ls hl => ?_)
        refine lv_iinc (v := v6 + 1) (lv' := [(6, .int (v6 + 1)), (3, .long y11), (0, .ref (o 0)), (5, .int v5)]) hx hb dX6_withDots_72 hl (k := 3) rfl (by rfl) (by decide) rfl (fun ls hl => ?_)
        refine lv_goto (tgt := 50) hx hb dX6_withDots_75 (by decide) ?_
        exact ih y11 (v6 + 1) hf H locs ls hw (lv_sub hl [2, 1, 3, 0] rfl)
  have h_L35 : ∀ (n : Nat) (v3 : Int64) (v5 : Int32), f_X6_withDots_L35 oR oB n v3 v5 = some (r) → ∀ (H : Heap) (locs : List Loc) (ls : Array Slot), Wd D A s.heap H locs (wX6 o cA oX oP oD oR oT oB oC oG) → lv_has ls 7 [(0, .ref (o 0)), (3, .long v3), (5, .int v5)] → W p l e rmX6_withDots s m ([.ref (o 0), .long a1] : List Value).toArray below meth c H locs 0 0 Q (F0 m 35 ls []) := by
    intro n
    induction n with
    | zero =>
      intro v3 v5 hf
      have hf : none = some (r) := hf
      cases hf
    | succ n ih =>
      intro v3 v5 hf H locs ls hw hl
      have hf := (f_X6_withDots_L35_s oR oB n v3 v5).symm.trans hf
      refine lv_iload hx hb dX6_withDots_35 (lv_at hl 2 rfl) ?_
      refine lv_aload_n hx hb dX6_withDots_37 rfl (lv_at hl 0 rfl) ?_
      refine w_get hx hb hts hi6 hown hK hw 0 rfl rfl 1 (by decide) q1 rfl (v := .ref (o 7)) rfl dX6_withDots_38 ?_
      refine w_get hx hb hts hi0 hown hK hw 14 rfl rfl 2 (by decide) q2 rfl (v := .int (oB.1 2)) rfl dX6_withDots_41 ?_
      refine lv_icmp_ge (tgt := 84) hx hb dX6_withDots_44 (by decide) (fun c7 => ?_) (fun c7 => ?_)
      · have hf := if_t c7 hf
        refine lv_lload_n hx hb dX6_withDots_84 rfl (lv_at hl 1 rfl) ?_
        have e0_ := sm1 hf
        exact hret _ _ _ _ _ hw e0_ dX6_withDots_85
      · have hf := if_f c7 hf
        refine lv_iconst (v := 0) hx hb dX6_withDots_47 (by decide) ?_
        refine lv_istore (lv' := [(6, .int 0), (0, .ref (o 0)), (3, .long v3), (5, .int v5)]) hx hb dX6_withDots_48 hl (by decide) rfl (fun ls hl => ?_)
        refine h_L50 v5 _ ?_ _ v3 0 hf H locs ls hw (lv_sub hl [1, 2, 3, 0] rfl)
        intro v13 hf H locs ls hw hl
        refine lv_iinc (v := v5 + 1) (lv' := [(5, .int (v5 + 1)), (0, .ref (o 0)), (3, .long v13)]) hx hb dX6_withDots_78 hl (k := 2) rfl (by rfl) (by decide) rfl (fun ls hl => ?_)
        refine lv_goto (tgt := 35) hx hb dX6_withDots_81 (by decide) ?_
        exact ih v13 (v5 + 1) hf H locs ls hw (lv_sub hl [1, 2, 0] rfl)
  unfold f_X6_withDots at hf
  obtain ⟨H, hH⟩ : ∃ H, H = s.heap := ⟨_, rfl⟩
  obtain ⟨locs, hlc⟩ : ∃ locs : List Loc, locs = [] := ⟨_, rfl⟩
  have hw : Wd D A s.heap H locs (wX6 o cA oX oP oD oR oT oB oC oG) := by rw [hH, hlc]; exact hw
  have goal : W p l e rmX6_withDots s m ([.ref (o 0), .long a1] : List Value).toArray below meth c H locs 0 0 Q (F0 m 0 ls []) := by
    clear hH hlc
    refine lv_lload_n hx hb dX6_withDots_0 rfl (lv_at hl 1 rfl) ?_
    refine lv_lstore_n (lv' := [(3, .long a1), (0, .ref (o 0)), (1, .long a1)]) hx hb dX6_withDots_1 rfl hl (by decide) rfl (fun ls hl => ?_)
    refine lv_iconst (v := 0) hx hb dX6_withDots_2 (by decide) ?_
    refine lv_istore (lv' := [(5, .int 0), (3, .long a1), (0, .ref (o 0)), (1, .long a1)]) hx hb dX6_withDots_3 hl (by decide) rfl (fun ls hl => ?_)
    refine h_L5  _ ?_ _ a1 0 hf H locs ls hw (lv_sub hl [2, 1, 0] rfl)
    intro v6 hf H locs ls hw hl
    refine lv_iconst (v := 0) hx hb dX6_withDots_32 (by decide) ?_
    refine lv_istore (lv' := [(5, .int 0), (0, .ref (o 0)), (3, .long v6)]) hx hb dX6_withDots_33 hl (by decide) rfl (fun ls hl => ?_)
    exact h_L35  _ v6 0 hf H locs ls hw (lv_sub hl [1, 2, 0] rfl)
  rw [hH, hlc] at goal
  exact goal
abbrev rmX6_withSpots : Room := { frames := 3, cells := 0, slots := 0, locals := 70 }
theorem hd_X6_withSpots : yX6_withSpots.cls = RX6 ∧ yX6_withSpots.cls ≠ "java/lang/invoke/MethodHandle" ∧ yX6_withSpots.cls ≠ "java/lang/invoke/VarHandle" ∧ (parseMethodDescriptor yX6_withSpots.desc).map (fun d => d.parameters.length) = some 1 := by decide +kernel
set_option maxHeartbeats 4000000 in
set_option maxRecDepth 100000 in
theorem k_X6_withSpots (l : Launch) (D : va_G) (cA : ClassId) (tx ty : Nat) (o : Nat → Nat) (oX : St) (oP : St) (oD : St) (oR : St) (oT : St) (oB : St) (oC : St) (oG : St) (a1 : Int64) (r : Int64) (oG' : St) (hf : f_X6_withSpots oT oB oG a1 = some (r, oG')) : Ml l yX6_withSpots wsX6_withSpots rmX6_withSpots D cA (z_X tx ty) [.ref (o 0), .long a1] (wX6 o cA oX oP oD oR oT oB oC oG) r (wX6 o cA oX oP oD oR oT oB oC oG') := by
  refine Ml.of (cc := cX6_withSpots) (maxL := 7) (by decide) rfl (Nat.le_of_ble_eq_true rfl) ?_
  intro p e s m below meth c A Q hx hb hml hown hts hK hA hZ hret ls hl hw
  replace hown : s.vm.findClass RX6 = some m.cls := hown
  have hl : lv_has ls 7 [(0, .ref (o 0)), (1, .long a1)] := hl
  have hZo := z_X_ok tx ty
  have hi5 : ∀ w ∈ wsX50, w ∈ wsX6_withSpots := fun w h => List.mem_cons_of_mem _ (List.mem_append_left _ (List.mem_append_left _ (List.mem_append_right _ h)))
  have hi6 : ∀ w ∈ wsX60, w ∈ wsX6_withSpots := fun w h => List.mem_cons_of_mem _ (List.mem_append_left _ (List.mem_append_left _ (List.mem_append_left _ (List.mem_append_right _ h))))
  have q0 := hts (.constantLong RX6 254 31) (by decide +kernel)
  have q1 := hts (.fieldLink RX6 44 "ArcRings" "table" "LArcRings$Table;") (by decide +kernel)
  have q2 := hts (.fieldLink RX6 205 "ArcRings$Table" "size" "I") (by decide +kernel)
  have h_L5 : ∀ (oG : St) (K : Int64 → Option (Int64 × St)), (∀ (z0 : Int64), K z0 = some (r, oG') → ∀ (H : Heap) (locs : List Loc) (ls : Array Slot), Wd D A s.heap H locs (wX6 o cA oX oP oD oR oT oB oC oG) → lv_has ls 7 [(0, .ref (o 0)), (3, .long z0)] → W p l e rmX6_withSpots s m ([.ref (o 0), .long a1] : List Value).toArray below meth c H locs 0 0 Q (F0 m 34 ls [])) → ∀ (n : Nat) (v3 : Int64) (v5 : Int32), f_X6_withSpots_L5 oT K n v3 v5 = some (r, oG') → ∀ (H : Heap) (locs : List Loc) (ls : Array Slot), Wd D A s.heap H locs (wX6 o cA oX oP oD oR oT oB oC oG) → lv_has ls 7 [(0, .ref (o 0)), (3, .long v3), (5, .int v5)] → W p l e rmX6_withSpots s m ([.ref (o 0), .long a1] : List Value).toArray below meth c H locs 0 0 Q (F0 m 5 ls []) := by
    intro oG K hK9 n
    induction n with
    | zero =>
      intro v3 v5 hf
      have hf : none = some (r, oG') := hf
      cases hf
    | succ n ih =>
      intro v3 v5 hf H locs ls hw hl
      have hf := (f_X6_withSpots_L5_s oT K n v3 v5).symm.trans hf
      refine lv_iload hx hb dX6_withSpots_5 (lv_at hl 2 rfl) ?_
      refine lv_iconst (v := 3) hx hb dX6_withSpots_7 (by decide) ?_
      refine lv_icmp_gt (tgt := 34) hx hb dX6_withSpots_8 (by decide) (fun c1 => ?_) (fun c1 => ?_)
      · have hf := if_t c1 hf
        exact hK9 v3 hf H locs ls hw (lv_sub hl [0, 1] rfl)
      · have hf := if_f c1 hf
        refine lv_ldc2 hx hb hown q0 dX6_withSpots_11 ?_
        refine lv_lload_n hx hb dX6_withSpots_14 rfl (lv_at hl 1 rfl) ?_
        refine lv_lmul hx hb dX6_withSpots_15 ?_
        refine lv_aload_n hx hb dX6_withSpots_16 rfl (lv_at hl 0 rfl) ?_
        refine w_get hx hb hts hi6 hown hK hw 0 rfl rfl 4 (by decide) q1 rfl (v := .ref (o 13)) rfl dX6_withSpots_17 ?_
        refine lv_iload hx hb dX6_withSpots_20 (lv_at hl 2 rfl) ?_
        obtain ⟨x2, g3, hf⟩ := bn1_e hf
        have fr := fr_X6_X5_oT_oB_oC_oG o cA oX oP oD oR oT oB oC oG oT oB oC oG
        refine go_i (run_v (As := [.int v5]) (rest := [.long (31 * v3)]) ⟨hx, hb, hml, hown, hts⟩ (k_X5_total l D cA tx ty o oT oB oC oG v5 x2 g3 H.size) (cwV 1 hts gX6_withSpots_X5_total rfl rfl rfl hd_X5_total ⟨Nat.le_of_ble_eq_true rfl, Nat.le_of_ble_eq_true rfl⟩) fr hw hK hA hZo hZ (ci := 5) rfl rfl rfl rfl hl.1 rfl (Nat.le_of_ble_eq_true rfl) dX6_withSpots_22 ⟨Nat.zero_le _, Nat.zero_le _⟩) fr hw hA (fun H locs hw => ?_)
        refine lv_i2l (v := (x2 : Int32).toInt64) hx hb dX6_withSpots_25 rfl ?_
        refine lv_ladd hx hb dX6_withSpots_26 ?_
        obtain ⟨y4, e5, hf⟩ := bn1_e hf
        refine w_nml (sm1 e5) ?_
        refine lv_lstore_n (lv' := [(3, .long y4), (0, .ref (o 0)), (5, .int v5)]) hx hb dX6_withSpots_27 rfl hl (by decide) rfl (fun ls hl => ?_)
        refine lv_iinc (v := v5 + 1) (lv' := [(5, .int (v5 + 1)), (3, .long y4), (0, .ref (o 0))]) hx hb dX6_withSpots_28 hl (k := 2) rfl (by rfl) (by decide) rfl (fun ls hl => ?_)
        refine lv_goto (tgt := 5) hx hb dX6_withSpots_31 (by decide) ?_
        exact ih y4 (v5 + 1) hf H locs ls hw (lv_sub hl [2, 1, 0] rfl)
  have h_L52 : ∀ (v5 : Int32) (K : Int64 → St → Option (Int64 × St)), (∀ (z0 : Int64) (z1 : St), K z0 z1 = some (r, oG') → ∀ (H : Heap) (locs : List Loc) (ls : Array Slot), Wd D A s.heap H locs (wX6 o cA oX oP oD oR oT oB oC z1) → lv_has ls 7 [(0, .ref (o 0)), (3, .long z0), (5, .int v5)] → W p l e rmX6_withSpots s m ([.ref (o 0), .long a1] : List Value).toArray below meth c H locs 0 0 Q (F0 m 84 ls [])) → ∀ (n : Nat) (v3 : Int64) (v6 : Int32) (oG : St), f_X6_withSpots_L52 oT oB v5 K n v3 v6 oG = some (r, oG') → ∀ (H : Heap) (locs : List Loc) (ls : Array Slot), Wd D A s.heap H locs (wX6 o cA oX oP oD oR oT oB oC oG) → lv_has ls 7 [(0, .ref (o 0)), (3, .long v3), (5, .int v5), (6, .int v6)] → W p l e rmX6_withSpots s m ([.ref (o 0), .long a1] : List Value).toArray below meth c H locs 0 0 Q (F0 m 52 ls []) := by
    intro v5 K hK9 n
    induction n with
    | zero =>
      intro v3 v6 oG hf
      have hf : none = some (r, oG') := hf
      cases hf
    | succ n ih =>
      intro v3 v6 oG hf H locs ls hw hl
      have hf := (f_X6_withSpots_L52_s oT oB v5 K n v3 v6 oG).symm.trans hf
      refine lv_iload hx hb dX6_withSpots_52 (lv_at hl 3 rfl) ?_
      refine lv_bipush (v := 6) hx hb dX6_withSpots_54 (by decide) ?_
      refine lv_icmp_gt (tgt := 84) hx hb dX6_withSpots_56 (by decide) (fun c8 => ?_) (fun c8 => ?_)
      · have hf := if_t c8 hf
        exact hK9 v3 oG hf H locs ls hw (lv_sub hl [0, 1, 2] rfl)
      · have hf := if_f c8 hf
        refine lv_ldc2 hx hb hown q0 dX6_withSpots_59 ?_
        refine lv_lload_n hx hb dX6_withSpots_62 rfl (lv_at hl 1 rfl) ?_
        refine lv_lmul hx hb dX6_withSpots_63 ?_
        refine lv_aload_n hx hb dX6_withSpots_64 rfl (lv_at hl 0 rfl) ?_
        refine w_get hx hb hts hi6 hown hK hw 0 rfl rfl 4 (by decide) q1 rfl (v := .ref (o 13)) rfl dX6_withSpots_65 ?_
        refine lv_iload hx hb dX6_withSpots_68 (lv_at hl 2 rfl) ?_
        refine lv_iload hx hb dX6_withSpots_70 (lv_at hl 3 rfl) ?_
        obtain ⟨x9, oG10, g11, hf⟩ := bn2_e hf
        have fr := fr_X6_X5_oT_oB_oC_oG o cA oX oP oD oR oT oB oC oG oT oB oC oG10
        refine go_i (run_v (As := [.int v5, .int v6]) (rest := [.long (31 * v3)]) ⟨hx, hb, hml, hown, hts⟩ (k_X5_tell l D cA tx ty o oT oB oC oG v5 v6 x9 oG10 g11 H.size) (cwV 2 hts gX6_withSpots_X5_tell rfl rfl rfl hd_X5_tell ⟨Nat.le_of_ble_eq_true rfl, Nat.le_of_ble_eq_true rfl⟩) fr hw hK hA hZo hZ (ci := 5) rfl rfl rfl rfl hl.1 rfl (Nat.le_of_ble_eq_true rfl) dX6_withSpots_72 ⟨Nat.zero_le _, Nat.zero_le _⟩) fr hw hA (fun H locs hw => ?_)
        refine lv_i2l (v := (x9 : Int32).toInt64) hx hb dX6_withSpots_75 rfl ?_
        refine lv_ladd hx hb dX6_withSpots_76 ?_
        obtain ⟨y12, e13, hf⟩ := bn1_e hf
        refine w_nml (sm1 e13) ?_
        refine lv_lstore_n (lv' := [(3, .long y12), (0, .ref (o 0)), (5, .int v5), (6, .int v6)]) hx hb dX6_withSpots_77 rfl hl (by decide) rfl (fun ls hl => ?_)
        refine lv_iinc (v := v6 + 1) (lv' := [(6, .int (v6 + 1)), (3, .long y12), (0, .ref (o 0)), (5, .int v5)]) hx hb dX6_withSpots_78 hl (k := 3) rfl (by rfl) (by decide) rfl (fun ls hl => ?_)
        refine lv_goto (tgt := 52) hx hb dX6_withSpots_81 (by decide) ?_
        exact ih y12 (v6 + 1) oG10 hf H locs ls hw (lv_sub hl [2, 1, 3, 0] rfl)
  have h_L37 : ∀ (n : Nat) (v3 : Int64) (v5 : Int32) (oG : St), f_X6_withSpots_L37 oT oB n v3 v5 oG = some (r, oG') → ∀ (H : Heap) (locs : List Loc) (ls : Array Slot), Wd D A s.heap H locs (wX6 o cA oX oP oD oR oT oB oC oG) → lv_has ls 7 [(0, .ref (o 0)), (3, .long v3), (5, .int v5)] → W p l e rmX6_withSpots s m ([.ref (o 0), .long a1] : List Value).toArray below meth c H locs 0 0 Q (F0 m 37 ls []) := by
    intro n
    induction n with
    | zero =>
      intro v3 v5 oG hf
      have hf : none = some (r, oG') := hf
      cases hf
    | succ n ih =>
      intro v3 v5 oG hf H locs ls hw hl
      have hf := (f_X6_withSpots_L37_s oT oB n v3 v5 oG).symm.trans hf
      refine lv_iload hx hb dX6_withSpots_37 (lv_at hl 2 rfl) ?_
      refine lv_aload_n hx hb dX6_withSpots_39 rfl (lv_at hl 0 rfl) ?_
      refine w_get hx hb hts hi6 hown hK hw 0 rfl rfl 4 (by decide) q1 rfl (v := .ref (o 13)) rfl dX6_withSpots_40 ?_
      refine w_get hx hb hts hi5 hown hK hw 10 rfl rfl 4 (by decide) q2 rfl (v := .int (oT.1 4)) rfl dX6_withSpots_43 ?_
      refine lv_icmp_ge (tgt := 90) hx hb dX6_withSpots_46 (by decide) (fun c7 => ?_) (fun c7 => ?_)
      · have hf := if_t c7 hf
        refine lv_lload_n hx hb dX6_withSpots_90 rfl (lv_at hl 1 rfl) ?_
        obtain ⟨e0_, e1_⟩ := sm2 hf
        exact hret _ _ _ _ _ (by rw [← e1_]; exact hw) e0_ dX6_withSpots_91
      · have hf := if_f c7 hf
        refine lv_iconst (v := 0) hx hb dX6_withSpots_49 (by decide) ?_
        refine lv_istore (lv' := [(6, .int 0), (0, .ref (o 0)), (3, .long v3), (5, .int v5)]) hx hb dX6_withSpots_50 hl (by decide) rfl (fun ls hl => ?_)
        refine h_L52 v5 _ ?_ _ v3 0 oG hf H locs ls hw (lv_sub hl [1, 2, 3, 0] rfl)
        intro v14 oG15 hf H locs ls hw hl
        refine lv_iinc (v := v5 + 1) (lv' := [(5, .int (v5 + 1)), (0, .ref (o 0)), (3, .long v14)]) hx hb dX6_withSpots_84 hl (k := 2) rfl (by rfl) (by decide) rfl (fun ls hl => ?_)
        refine lv_goto (tgt := 37) hx hb dX6_withSpots_87 (by decide) ?_
        exact ih v14 (v5 + 1) oG15 hf H locs ls hw (lv_sub hl [1, 2, 0] rfl)
  unfold f_X6_withSpots at hf
  obtain ⟨H, hH⟩ : ∃ H, H = s.heap := ⟨_, rfl⟩
  obtain ⟨locs, hlc⟩ : ∃ locs : List Loc, locs = [] := ⟨_, rfl⟩
  have hw : Wd D A s.heap H locs (wX6 o cA oX oP oD oR oT oB oC oG) := by rw [hH, hlc]; exact hw
  have goal : W p l e rmX6_withSpots s m ([.ref (o 0), .long a1] : List Value).toArray below meth c H locs 0 0 Q (F0 m 0 ls []) := by
    clear hH hlc
    refine lv_lload_n hx hb dX6_withSpots_0 rfl (lv_at hl 1 rfl) ?_
    refine lv_lstore_n (lv' := [(3, .long a1), (0, .ref (o 0)), (1, .long a1)]) hx hb dX6_withSpots_1 rfl hl (by decide) rfl (fun ls hl => ?_)
    refine lv_iconst (v := 0) hx hb dX6_withSpots_2 (by decide) ?_
    refine lv_istore (lv' := [(5, .int 0), (3, .long a1), (0, .ref (o 0)), (1, .long a1)]) hx hb dX6_withSpots_3 hl (by decide) rfl (fun ls hl => ?_)
    refine h_L5 oG _ ?_ _ a1 0 hf H locs ls hw (lv_sub hl [2, 1, 0] rfl)
    intro v6 hf H locs ls hw hl
    refine lv_iconst (v := 0) hx hb dX6_withSpots_34 (by decide) ?_
    refine lv_istore (lv' := [(5, .int 0), (0, .ref (o 0)), (3, .long v6)]) hx hb dX6_withSpots_35 hl (by decide) rfl (fun ls hl => ?_)
    exact h_L37  _ v6 0 oG hf H locs ls hw (lv_sub hl [1, 2, 0] rfl)
  rw [hH, hlc] at goal
  exact goal
abbrev rmX6_withRings : Room := { frames := 5, cells := 0, slots := 0, locals := 111 }
theorem hd_X6_withRings : yX6_withRings.cls = RX6 ∧ yX6_withRings.cls ≠ "java/lang/invoke/MethodHandle" ∧ yX6_withRings.cls ≠ "java/lang/invoke/VarHandle" ∧ (parseMethodDescriptor yX6_withRings.desc).map (fun d => d.parameters.length) = some 1 := by decide +kernel
set_option maxHeartbeats 4000000 in
set_option maxRecDepth 100000 in
theorem k_X6_withRings (l : Launch) (D : va_G) (cA : ClassId) (tx ty : Nat) (o : Nat → Nat) (oX : St) (oP : St) (oD : St) (oR : St) (oT : St) (oB : St) (oC : St) (oG : St) (a1 : Int64) (r : Int64) (oG' : St) (hf : f_X6_withRings oR oB oG a1 = some (r, oG')) : Ml l yX6_withRings wsX6_withRings rmX6_withRings D cA (z_X tx ty) [.ref (o 0), .long a1] (wX6 o cA oX oP oD oR oT oB oC oG) r (wX6 o cA oX oP oD oR oT oB oC oG') := by
  refine Ml.of (cc := cX6_withRings) (maxL := 7) (by decide) rfl (Nat.le_of_ble_eq_true rfl) ?_
  intro p e s m below meth c A Q hx hb hml hown hts hK hA hZ hret ls hl hw
  replace hown : s.vm.findClass RX6 = some m.cls := hown
  have hl : lv_has ls 7 [(0, .ref (o 0)), (1, .long a1)] := hl
  have hZo := z_X_ok tx ty
  have hi3 : ∀ w ∈ wsX30, w ∈ wsX6_withRings := fun w h => List.mem_cons_of_mem _ (List.mem_append_left _ (List.mem_append_left _ (List.mem_append_right _ h)))
  have hi6 : ∀ w ∈ wsX60, w ∈ wsX6_withRings := fun w h => List.mem_cons_of_mem _ (List.mem_append_left _ (List.mem_append_left _ (List.mem_append_left _ (List.mem_append_right _ h))))
  have q0 := hts (.fieldLink RX6 53 "ArcRings" "kept" "LArcRings$Rings;") (by decide +kernel)
  have q1 := hts (.fieldLink RX6 220 "ArcRings$Rings" "size" "I") (by decide +kernel)
  have q2 := hts (.constantLong RX6 254 31) (by decide +kernel)
  have h_L20 : ∀ (v5 : Int32) (K : Int64 → St → Option (Int64 × St)), (∀ (z0 : Int64) (z1 : St), K z0 z1 = some (r, oG') → ∀ (H : Heap) (locs : List Loc) (ls : Array Slot), Wd D A s.heap H locs (wX6 o cA oX oP oD oR oT oB oC z1) → lv_has ls 7 [(0, .ref (o 0)), (3, .long z0), (5, .int v5)] → W p l e rmX6_withRings s m ([.ref (o 0), .long a1] : List Value).toArray below meth c H locs 0 0 Q (F0 m 52 ls [])) → ∀ (n : Nat) (v3 : Int64) (v6 : Int32) (oG : St), f_X6_withRings_L20 oR oB v5 K n v3 v6 oG = some (r, oG') → ∀ (H : Heap) (locs : List Loc) (ls : Array Slot), Wd D A s.heap H locs (wX6 o cA oX oP oD oR oT oB oC oG) → lv_has ls 7 [(0, .ref (o 0)), (3, .long v3), (5, .int v5), (6, .int v6)] → W p l e rmX6_withRings s m ([.ref (o 0), .long a1] : List Value).toArray below meth c H locs 0 0 Q (F0 m 20 ls []) := by
    intro v5 K hK9 n
    induction n with
    | zero =>
      intro v3 v6 oG hf
      have hf : none = some (r, oG') := hf
      cases hf
    | succ n ih =>
      intro v3 v6 oG hf H locs ls hw hl
      have hf := (f_X6_withRings_L20_s oR oB v5 K n v3 v6 oG).symm.trans hf
      refine lv_iload hx hb dX6_withRings_20 (lv_at hl 3 rfl) ?_
      refine lv_bipush (v := 6) hx hb dX6_withRings_22 (by decide) ?_
      refine lv_icmp_gt (tgt := 52) hx hb dX6_withRings_24 (by decide) (fun c2 => ?_) (fun c2 => ?_)
      · have hf := if_t c2 hf
        exact hK9 v3 oG hf H locs ls hw (lv_sub hl [0, 1, 2] rfl)
      · have hf := if_f c2 hf
        refine lv_ldc2 hx hb hown q2 dX6_withRings_27 ?_
        refine lv_lload_n hx hb dX6_withRings_30 rfl (lv_at hl 1 rfl) ?_
        refine lv_lmul hx hb dX6_withRings_31 ?_
        refine lv_aload_n hx hb dX6_withRings_32 rfl (lv_at hl 0 rfl) ?_
        refine w_get hx hb hts hi6 hown hK hw 0 rfl rfl 5 (by decide) q0 rfl (v := .ref (o 17)) rfl dX6_withRings_33 ?_
        refine lv_iload hx hb dX6_withRings_36 (lv_at hl 2 rfl) ?_
        refine lv_iload hx hb dX6_withRings_38 (lv_at hl 3 rfl) ?_
        obtain ⟨x3, oG4, g5, hf⟩ := bn2_e hf
        have fr := fr_X6_X3_oR_oT_oB_oC_oG o cA oX oP oD oR oT oB oC oG oR oT oB oC oG4
        refine go_i (run_v (As := [.int v5, .int v6]) (rest := [.long (31 * v3)]) ⟨hx, hb, hml, hown, hts⟩ (k_X3_tell l D cA tx ty o oR oT oB oC oG v5 v6 x3 oG4 g5 H.size) (cwV 2 hts gX6_withRings_X3_tell rfl rfl rfl hd_X3_tell ⟨Nat.le_of_ble_eq_true rfl, Nat.le_of_ble_eq_true rfl⟩) fr hw hK hA hZo hZ (ci := 3) rfl rfl rfl rfl hl.1 rfl (Nat.le_of_ble_eq_true rfl) dX6_withRings_40 ⟨Nat.zero_le _, Nat.zero_le _⟩) fr hw hA (fun H locs hw => ?_)
        refine lv_i2l (v := (x3 : Int32).toInt64) hx hb dX6_withRings_43 rfl ?_
        refine lv_ladd hx hb dX6_withRings_44 ?_
        obtain ⟨y6, e7, hf⟩ := bn1_e hf
        refine w_nml (sm1 e7) ?_
        refine lv_lstore_n (lv' := [(3, .long y6), (0, .ref (o 0)), (5, .int v5), (6, .int v6)]) hx hb dX6_withRings_45 rfl hl (by decide) rfl (fun ls hl => ?_)
        refine lv_iinc (v := v6 + 1) (lv' := [(6, .int (v6 + 1)), (3, .long y6), (0, .ref (o 0)), (5, .int v5)]) hx hb dX6_withRings_46 hl (k := 3) rfl (by rfl) (by decide) rfl (fun ls hl => ?_)
        refine lv_goto (tgt := 20) hx hb dX6_withRings_49 (by decide) ?_
        exact ih y6 (v6 + 1) oG4 hf H locs ls hw (lv_sub hl [2, 1, 3, 0] rfl)
  have h_L5 : ∀ (n : Nat) (v3 : Int64) (v5 : Int32) (oG : St), f_X6_withRings_L5 oR oB n v3 v5 oG = some (r, oG') → ∀ (H : Heap) (locs : List Loc) (ls : Array Slot), Wd D A s.heap H locs (wX6 o cA oX oP oD oR oT oB oC oG) → lv_has ls 7 [(0, .ref (o 0)), (3, .long v3), (5, .int v5)] → W p l e rmX6_withRings s m ([.ref (o 0), .long a1] : List Value).toArray below meth c H locs 0 0 Q (F0 m 5 ls []) := by
    intro n
    induction n with
    | zero =>
      intro v3 v5 oG hf
      have hf : none = some (r, oG') := hf
      cases hf
    | succ n ih =>
      intro v3 v5 oG hf H locs ls hw hl
      have hf := (f_X6_withRings_L5_s oR oB n v3 v5 oG).symm.trans hf
      refine lv_iload hx hb dX6_withRings_5 (lv_at hl 2 rfl) ?_
      refine lv_aload_n hx hb dX6_withRings_7 rfl (lv_at hl 0 rfl) ?_
      refine w_get hx hb hts hi6 hown hK hw 0 rfl rfl 5 (by decide) q0 rfl (v := .ref (o 17)) rfl dX6_withRings_8 ?_
      refine w_get hx hb hts hi3 hown hK hw 7 rfl rfl 4 (by decide) q1 rfl (v := .int (oR.1 4)) rfl dX6_withRings_11 ?_
      refine lv_icmp_ge (tgt := 58) hx hb dX6_withRings_14 (by decide) (fun c1 => ?_) (fun c1 => ?_)
      · have hf := if_t c1 hf
        refine lv_lload_n hx hb dX6_withRings_58 rfl (lv_at hl 1 rfl) ?_
        obtain ⟨e0_, e1_⟩ := sm2 hf
        exact hret _ _ _ _ _ (by rw [← e1_]; exact hw) e0_ dX6_withRings_59
      · have hf := if_f c1 hf
        refine lv_iconst (v := 0) hx hb dX6_withRings_17 (by decide) ?_
        refine lv_istore (lv' := [(6, .int 0), (0, .ref (o 0)), (3, .long v3), (5, .int v5)]) hx hb dX6_withRings_18 hl (by decide) rfl (fun ls hl => ?_)
        refine h_L20 v5 _ ?_ _ v3 0 oG hf H locs ls hw (lv_sub hl [1, 2, 3, 0] rfl)
        intro v8 oG9 hf H locs ls hw hl
        refine lv_iinc (v := v5 + 1) (lv' := [(5, .int (v5 + 1)), (0, .ref (o 0)), (3, .long v8)]) hx hb dX6_withRings_52 hl (k := 2) rfl (by rfl) (by decide) rfl (fun ls hl => ?_)
        refine lv_goto (tgt := 5) hx hb dX6_withRings_55 (by decide) ?_
        exact ih v8 (v5 + 1) oG9 hf H locs ls hw (lv_sub hl [1, 2, 0] rfl)
  unfold f_X6_withRings at hf
  obtain ⟨H, hH⟩ : ∃ H, H = s.heap := ⟨_, rfl⟩
  obtain ⟨locs, hlc⟩ : ∃ locs : List Loc, locs = [] := ⟨_, rfl⟩
  have hw : Wd D A s.heap H locs (wX6 o cA oX oP oD oR oT oB oC oG) := by rw [hH, hlc]; exact hw
  have goal : W p l e rmX6_withRings s m ([.ref (o 0), .long a1] : List Value).toArray below meth c H locs 0 0 Q (F0 m 0 ls []) := by
    clear hH hlc
    refine lv_lload_n hx hb dX6_withRings_0 rfl (lv_at hl 1 rfl) ?_
    refine lv_lstore_n (lv' := [(3, .long a1), (0, .ref (o 0)), (1, .long a1)]) hx hb dX6_withRings_1 rfl hl (by decide) rfl (fun ls hl => ?_)
    refine lv_iconst (v := 0) hx hb dX6_withRings_2 (by decide) ?_
    refine lv_istore (lv' := [(5, .int 0), (3, .long a1), (0, .ref (o 0)), (1, .long a1)]) hx hb dX6_withRings_3 hl (by decide) rfl (fun ls hl => ?_)
    exact h_L5  _ a1 0 oG hf H locs ls hw (lv_sub hl [2, 1, 0] rfl)
  rw [hH, hlc] at goal
  exact goal
abbrev rmX6_digest : Room := { frames := 6, cells := 0, slots := 0, locals := 141 }
theorem hd_X6_digest : yX6_digest.cls = RX6 ∧ yX6_digest.cls ≠ "java/lang/invoke/MethodHandle" ∧ yX6_digest.cls ≠ "java/lang/invoke/VarHandle" ∧ (parseMethodDescriptor yX6_digest.desc).map (fun d => d.parameters.length) = some 0 := by decide +kernel
set_option maxHeartbeats 4000000 in
set_option maxRecDepth 100000 in
theorem k_X6_digest (l : Launch) (D : va_G) (cA : ClassId) (tx ty : Nat) (o : Nat → Nat) (oX : St) (oP : St) (oD : St) (oR : St) (oT : St) (oB : St) (oC : St) (oG : St) (r : Int64) (oT' : St) (oC' : St) (oG' : St) (hf : f_X6_digest oX oP oR oT oB oC oG = some (r, oT', oC', oG')) : Ml l yX6_digest wsX6_digest rmX6_digest D cA (z_X tx ty) [.ref (o 0)] (wX6 o cA oX oP oD oR oT oB oC oG) r (wX6 o cA oX oP oD oR oT' oB oC' oG') := by
  refine Ml.of (cc := cX6_digest) (maxL := 4) (by decide) rfl (Nat.le_of_ble_eq_true rfl) ?_
  intro p e s m below meth c A Q hx hb hml hown hts hK hA hZ hret ls hl hw
  replace hown : s.vm.findClass RX6 = some m.cls := hown
  have hl : lv_has ls 4 [(0, .ref (o 0))] := hl
  have hZo := z_X_ok tx ty
  have hi2 : ∀ w ∈ wsX20, w ∈ wsX6_digest := fun w h => List.mem_cons_of_mem _ (List.mem_append_left _ (List.mem_append_left _ (List.mem_append_left _ (List.mem_append_left _ (List.mem_append_left _ (List.mem_append_right _ h))))))
  have hi6 : ∀ w ∈ wsX60, w ∈ wsX6_digest := fun w h => List.mem_cons_of_mem _ (List.mem_append_left _ (List.mem_append_left _ (List.mem_append_left _ (List.mem_append_left _ (List.mem_append_left _ (List.mem_append_left _ (List.mem_append_right _ h)))))))
  have q0 := hts (.constantLong RX6 242 1559) (by decide +kernel)
  have q1 := hts (.fieldLink RX6 19 "ArcRings" "board" "LArcRings$Board;") (by decide +kernel)
  have q2 := hts (.fieldLink RX6 10 "ArcRings" "page" "LArcRings$Page;") (by decide +kernel)
  have q3 := hts (.fieldLink RX6 57 "ArcRings$Page" "length" "I") (by decide +kernel)
  have q4 := hts (.constantLong RX6 254 31) (by decide +kernel)
  have q5 := hts (.fieldLink RX6 256 "ArcRings$Page" "letters" "[I") (by decide +kernel)
  have q6 := hts (.fieldLink RX6 44 "ArcRings" "table" "LArcRings$Table;") (by decide +kernel)
  have h_L41 : ∀ (oT : St) (oC : St) (oG : St) (K : Int64 → Option (Int64 × St × St × St)), (∀ (z0 : Int64), K z0 = some (r, oT', oC', oG') → ∀ (H : Heap) (locs : List Loc) (ls : Array Slot), Wd D A s.heap H locs (wX6 o cA oX oP oD oR oT oB oC oG) → lv_has ls 4 [(0, .ref (o 0)), (1, .long z0)] → W p l e rmX6_digest s m ([.ref (o 0)] : List Value).toArray below meth c H locs 0 0 Q (F0 m 75 ls [])) → ∀ (n : Nat) (v1 : Int64) (v3 : Int32), f_X6_digest_L41 oP K n v1 v3 = some (r, oT', oC', oG') → ∀ (H : Heap) (locs : List Loc) (ls : Array Slot), Wd D A s.heap H locs (wX6 o cA oX oP oD oR oT oB oC oG) → lv_has ls 4 [(0, .ref (o 0)), (1, .long v1), (3, .int v3)] → W p l e rmX6_digest s m ([.ref (o 0)] : List Value).toArray below meth c H locs 0 0 Q (F0 m 41 ls []) := by
    intro oT oC oG K hK9 n
    induction n with
    | zero =>
      intro v1 v3 hf
      have hf : none = some (r, oT', oC', oG') := hf
      cases hf
    | succ n ih =>
      intro v1 v3 hf H locs ls hw hl
      have hf := (f_X6_digest_L41_s oP K n v1 v3).symm.trans hf
      refine lv_iload_n hx hb dX6_digest_41 rfl (lv_at hl 2 rfl) ?_
      refine lv_aload_n hx hb dX6_digest_42 rfl (lv_at hl 0 rfl) ?_
      refine w_get hx hb hts hi6 hown hK hw 0 rfl rfl 0 (by decide) q2 rfl (v := .ref (o 1)) rfl dX6_digest_43 ?_
      refine w_get hx hb hts hi2 hown hK hw 1 rfl rfl 1 (by decide) q3 rfl (v := .int (oP.1 1)) rfl dX6_digest_46 ?_
      refine lv_icmp_ge (tgt := 75) hx hb dX6_digest_49 (by decide) (fun c4 => ?_) (fun c4 => ?_)
      · have hf := if_t c4 hf
        exact hK9 v1 hf H locs ls hw (lv_sub hl [0, 1] rfl)
      · have hf := if_f c4 hf
        refine lv_ldc2 hx hb hown q4 dX6_digest_52 ?_
        refine lv_lload_n hx hb dX6_digest_55 rfl (lv_at hl 1 rfl) ?_
        refine lv_lmul hx hb dX6_digest_56 ?_
        refine lv_aload_n hx hb dX6_digest_57 rfl (lv_at hl 0 rfl) ?_
        refine w_get hx hb hts hi6 hown hK hw 0 rfl rfl 0 (by decide) q2 rfl (v := .ref (o 1)) rfl dX6_digest_58 ?_
        refine w_get hx hb hts hi2 hown hK hw 1 rfl rfl 0 (by decide) q5 rfl (v := .ref (o 2)) rfl dX6_digest_61 ?_
        refine lv_iload_n hx hb dX6_digest_64 rfl (lv_at hl 2 rfl) ?_
        obtain ⟨x5, g6, hf⟩ := bn1_e hf
        refine w_ald hx hb hK hw 2 rfl g6 dX6_digest_65 ?_
        refine lv_i2l (v := (x5 : Int32).toInt64) hx hb dX6_digest_66 rfl ?_
        refine lv_ladd hx hb dX6_digest_67 ?_
        obtain ⟨y7, e8, hf⟩ := bn1_e hf
        refine w_nml (sm1 e8) ?_
        refine lv_lstore_n (lv' := [(1, .long y7), (0, .ref (o 0)), (3, .int v3)]) hx hb dX6_digest_68 rfl hl (by decide) rfl (fun ls hl => ?_)
        refine lv_iinc (v := v3 + 1) (lv' := [(3, .int (v3 + 1)), (1, .long y7), (0, .ref (o 0))]) hx hb dX6_digest_69 hl (k := 2) rfl (by rfl) (by decide) rfl (fun ls hl => ?_)
        refine lv_goto (tgt := 41) hx hb dX6_digest_72 (by decide) ?_
        exact ih y7 (v3 + 1) hf H locs ls hw (lv_sub hl [2, 1, 0] rfl)
  have h_L77 : ∀ (oT : St) (oC : St) (oG : St), ∀ (n : Nat) (v1 : Int64) (v3 : Int32), f_X6_digest_L77 oX oP oR oT oB oC oG n v1 v3 = some (r, oT', oC', oG') → ∀ (H : Heap) (locs : List Loc) (ls : Array Slot), Wd D A s.heap H locs (wX6 o cA oX oP oD oR oT oB oC oG) → lv_has ls 4 [(0, .ref (o 0)), (1, .long v1), (3, .int v3)] → W p l e rmX6_digest s m ([.ref (o 0)] : List Value).toArray below meth c H locs 0 0 Q (F0 m 77 ls []) := by
    intro oT oC oG n
    induction n with
    | zero =>
      intro v1 v3 hf
      have hf : none = some (r, oT', oC', oG') := hf
      cases hf
    | succ n ih =>
      intro v1 v3 hf H locs ls hw hl
      have hf := (f_X6_digest_L77_s oX oP oR oT oB oC oG n v1 v3).symm.trans hf
      refine lv_iload_n hx hb dX6_digest_77 rfl (lv_at hl 2 rfl) ?_
      refine lv_bipush (v := 6) hx hb dX6_digest_78 (by decide) ?_
      refine lv_icmp_gt (tgt := 102) hx hb dX6_digest_80 (by decide) (fun c10 => ?_) (fun c10 => ?_)
      · have hf := if_t c10 hf
        refine lv_lload_n hx hb dX6_digest_102 rfl (lv_at hl 1 rfl) ?_
        obtain ⟨e0_, e1_, e2_, e3_⟩ := sm4 hf
        exact hret _ _ _ _ _ (by rw [← e1_, ← e2_, ← e3_]; exact hw) e0_ dX6_digest_103
      · have hf := if_f c10 hf
        refine lv_ldc2 hx hb hown q4 dX6_digest_83 ?_
        refine lv_lload_n hx hb dX6_digest_86 rfl (lv_at hl 1 rfl) ?_
        refine lv_lmul hx hb dX6_digest_87 ?_
        refine lv_aload_n hx hb dX6_digest_88 rfl (lv_at hl 0 rfl) ?_
        refine lv_iload_n hx hb dX6_digest_89 rfl (lv_at hl 2 rfl) ?_
        obtain ⟨x11, g12, hf⟩ := bn1_e hf
        have fr := fr_X6_X6_oX_oP_oD_oR_oT_oB_oC_oG o cA oX oP oD oR oT oB oC oG oX oP oD oR oT oB oC oG
        refine go_i (run_v (As := [.int v3]) (rest := [.long (31 * v1)]) ⟨hx, hb, hml, hown, hts⟩ (k_X6_count l D cA tx ty o oX oP oD oR oT oB oC oG v3 x11 g12 H.size) (cwV 1 hts gX6_digest_X6_count rfl rfl rfl hd_X6_count ⟨Nat.le_of_ble_eq_true rfl, Nat.le_of_ble_eq_true rfl⟩) fr hw hK hA hZo hZ (ci := 6) rfl rfl rfl rfl hl.1 rfl (Nat.le_of_ble_eq_true rfl) dX6_digest_90 ⟨Nat.zero_le _, Nat.zero_le _⟩) fr hw hA (fun H locs hw => ?_)
        refine lv_i2l (v := (x11 : Int32).toInt64) hx hb dX6_digest_93 rfl ?_
        refine lv_ladd hx hb dX6_digest_94 ?_
        obtain ⟨y13, e14, hf⟩ := bn1_e hf
        refine w_nml (sm1 e14) ?_
        refine lv_lstore_n (lv' := [(1, .long y13), (0, .ref (o 0)), (3, .int v3)]) hx hb dX6_digest_95 rfl hl (by decide) rfl (fun ls hl => ?_)
        refine lv_iinc (v := v3 + 1) (lv' := [(3, .int (v3 + 1)), (1, .long y13), (0, .ref (o 0))]) hx hb dX6_digest_96 hl (k := 2) rfl (by rfl) (by decide) rfl (fun ls hl => ?_)
        refine lv_goto (tgt := 77) hx hb dX6_digest_99 (by decide) ?_
        exact ih y13 (v3 + 1) hf H locs ls hw (lv_sub hl [2, 1, 0] rfl)
  unfold f_X6_digest at hf
  obtain ⟨H, hH⟩ : ∃ H, H = s.heap := ⟨_, rfl⟩
  obtain ⟨locs, hlc⟩ : ∃ locs : List Loc, locs = [] := ⟨_, rfl⟩
  have hw : Wd D A s.heap H locs (wX6 o cA oX oP oD oR oT oB oC oG) := by rw [hH, hlc]; exact hw
  have goal : W p l e rmX6_digest s m ([.ref (o 0)] : List Value).toArray below meth c H locs 0 0 Q (F0 m 0 ls []) := by
    clear hH hlc
    refine lv_ldc2 hx hb hown q0 dX6_digest_0 ?_
    refine lv_lstore_n (lv' := [(1, .long 1559), (0, .ref (o 0))]) hx hb dX6_digest_3 rfl hl (by decide) rfl (fun ls hl => ?_)
    refine lv_aload_n hx hb dX6_digest_4 rfl (lv_at hl 1 rfl) ?_
    refine w_get hx hb hts hi6 hown hK hw 0 rfl rfl 1 (by decide) q1 rfl (v := .ref (o 7)) rfl dX6_digest_5 ?_
    obtain ⟨x1, g2, hf⟩ := bn1_e hf
    have fr := fr_X6_X0_oB o cA oX oP oD oR oT oB oC oG oB
    refine go_i (run_v (As := []) (rest := []) ⟨hx, hb, hml, hown, hts⟩ (k_X0_isThere l D cA tx ty o 7 oB x1 g2 H.size) (cwV 0 hts gX6_digest_X0_isThere rfl rfl rfl hd_X0_isThere ⟨Nat.le_of_ble_eq_true rfl, Nat.le_of_ble_eq_true rfl⟩) fr hw hK hA hZo hZ (ci := 0) rfl rfl rfl rfl hl.1 rfl (Nat.le_of_ble_eq_true rfl) dX6_digest_8 ⟨Nat.zero_le _, Nat.zero_le _⟩) fr hw hA (fun H locs hw => ?_)
    refine lv_if_eq (tgt := 39) hx hb dX6_digest_11 (by decide) (fun c3 => ?_) (fun c3 => ?_)
    · have hf := if_t c3 hf
      refine lv_iconst (v := 0) hx hb dX6_digest_39 (by decide) ?_
      refine lv_istore_n (lv' := [(3, .int 0), (1, .long 1559), (0, .ref (o 0))]) hx hb dX6_digest_40 rfl hl (by decide) rfl (fun ls hl => ?_)
      refine h_L41 oT oC oG _ ?_ _ 1559 0 hf H locs ls hw (lv_sub hl [2, 1, 0] rfl)
      intro v9 hf H locs ls hw hl
      refine lv_iconst (v := 0) hx hb dX6_digest_75 (by decide) ?_
      refine lv_istore_n (lv' := [(3, .int 0), (0, .ref (o 0)), (1, .long v9)]) hx hb dX6_digest_76 rfl hl (by decide) rfl (fun ls hl => ?_)
      exact h_L77 oT oC oG _ v9 0 hf H locs ls hw (lv_sub hl [1, 2, 0] rfl)
    · have hf := if_f c3 hf
      refine lv_aload_n hx hb dX6_digest_14 rfl (lv_at hl 1 rfl) ?_
      refine w_get hx hb hts hi6 hown hK hw 0 rfl rfl 4 (by decide) q6 rfl (v := .ref (o 13)) rfl dX6_digest_15 ?_
      obtain ⟨oT15, oC16, oG17, g18, hf⟩ := bn3_e hf
      have fr := fr_X6_X5_oT_oB_oC_oG o cA oX oP oD oR oT oB oC oG oT15 oB oC16 oG17
      refine go_v (run_v (As := []) (rest := []) ⟨hx, hb, hml, hown, hts⟩ (k_X5_refresh l D cA tx ty o oT oB oC oG oT15 oC16 oG17 g18 H.size) (cwV 0 hts gX6_digest_X5_refresh rfl rfl rfl hd_X5_refresh ⟨Nat.le_of_ble_eq_true rfl, Nat.le_of_ble_eq_true rfl⟩) fr hw hK hA hZo hZ (ci := 5) rfl rfl rfl rfl hl.1 rfl (Nat.le_of_ble_eq_true rfl) dX6_digest_18 ⟨Nat.zero_le _, Nat.zero_le _⟩) fr hw hA (fun H locs hw => ?_)
      refine lv_aload_n hx hb dX6_digest_21 rfl (lv_at hl 1 rfl) ?_
      refine lv_lload_n hx hb dX6_digest_22 rfl (lv_at hl 0 rfl) ?_
      obtain ⟨x19, g20, hf⟩ := bn1_e hf
      have fr := fr_X6_X6_oX_oP_oD_oR_oT_oB_oC_oG o cA oX oP oD oR oT15 oB oC16 oG17 oX oP oD oR oT15 oB oC16 oG17
      refine go_l (run_v (As := [.long 1559]) (rest := []) ⟨hx, hb, hml, hown, hts⟩ (k_X6_withDots l D cA tx ty o oX oP oD oR oT15 oB oC16 oG17 1559 x19 g20 H.size) (cwV 1 hts gX6_digest_X6_withDots rfl rfl rfl hd_X6_withDots ⟨Nat.le_of_ble_eq_true rfl, Nat.le_of_ble_eq_true rfl⟩) fr hw hK hA hZo hZ (ci := 6) rfl rfl rfl rfl hl.1 rfl (Nat.le_of_ble_eq_true rfl) dX6_digest_23 ⟨Nat.zero_le _, Nat.zero_le _⟩) fr hw hA (fun H locs hw => ?_)
      refine lv_lstore_n (lv' := [(1, .long x19), (0, .ref (o 0))]) hx hb dX6_digest_26 rfl hl (by decide) rfl (fun ls hl => ?_)
      refine lv_aload_n hx hb dX6_digest_27 rfl (lv_at hl 1 rfl) ?_
      refine lv_lload_n hx hb dX6_digest_28 rfl (lv_at hl 0 rfl) ?_
      obtain ⟨x21, oG22, g23, hf⟩ := bn2_e hf
      have fr := fr_X6_X6_oX_oP_oD_oR_oT_oB_oC_oG o cA oX oP oD oR oT15 oB oC16 oG17 oX oP oD oR oT15 oB oC16 oG22
      refine go_l (run_v (As := [.long x19]) (rest := []) ⟨hx, hb, hml, hown, hts⟩ (k_X6_withSpots l D cA tx ty o oX oP oD oR oT15 oB oC16 oG17 x19 x21 oG22 g23 H.size) (cwV 1 hts gX6_digest_X6_withSpots rfl rfl rfl hd_X6_withSpots ⟨Nat.le_of_ble_eq_true rfl, Nat.le_of_ble_eq_true rfl⟩) fr hw hK hA hZo hZ (ci := 6) rfl rfl rfl rfl hl.1 rfl (Nat.le_of_ble_eq_true rfl) dX6_digest_29 ⟨Nat.zero_le _, Nat.zero_le _⟩) fr hw hA (fun H locs hw => ?_)
      refine lv_lstore_n (lv' := [(1, .long x21), (0, .ref (o 0))]) hx hb dX6_digest_32 rfl hl (by decide) rfl (fun ls hl => ?_)
      refine lv_aload_n hx hb dX6_digest_33 rfl (lv_at hl 1 rfl) ?_
      refine lv_lload_n hx hb dX6_digest_34 rfl (lv_at hl 0 rfl) ?_
      obtain ⟨x24, oG25, g26, hf⟩ := bn2_e hf
      have fr := fr_X6_X6_oX_oP_oD_oR_oT_oB_oC_oG o cA oX oP oD oR oT15 oB oC16 oG22 oX oP oD oR oT15 oB oC16 oG25
      refine go_l (run_v (As := [.long x21]) (rest := []) ⟨hx, hb, hml, hown, hts⟩ (k_X6_withRings l D cA tx ty o oX oP oD oR oT15 oB oC16 oG22 x21 x24 oG25 g26 H.size) (cwV 1 hts gX6_digest_X6_withRings rfl rfl rfl hd_X6_withRings ⟨Nat.le_of_ble_eq_true rfl, Nat.le_of_ble_eq_true rfl⟩) fr hw hK hA hZo hZ (ci := 6) rfl rfl rfl rfl hl.1 rfl (Nat.le_of_ble_eq_true rfl) dX6_digest_35 ⟨Nat.zero_le _, Nat.zero_le _⟩) fr hw hA (fun H locs hw => ?_)
      refine lv_lstore_n (lv' := [(1, .long x24), (0, .ref (o 0))]) hx hb dX6_digest_38 rfl hl (by decide) rfl (fun ls hl => ?_)
      refine lv_iconst (v := 0) hx hb dX6_digest_39 (by decide) ?_
      refine lv_istore_n (lv' := [(3, .int 0), (1, .long x24), (0, .ref (o 0))]) hx hb dX6_digest_40 rfl hl (by decide) rfl (fun ls hl => ?_)
      refine h_L41 oT15 oC16 oG25 _ ?_ _ x24 0 hf H locs ls hw (lv_sub hl [2, 1, 0] rfl)
      intro v27 hf H locs ls hw hl
      refine lv_iconst (v := 0) hx hb dX6_digest_75 (by decide) ?_
      refine lv_istore_n (lv' := [(3, .int 0), (0, .ref (o 0)), (1, .long v27)]) hx hb dX6_digest_76 rfl hl (by decide) rfl (fun ls hl => ?_)
      exact h_L77 oT15 oC16 oG25 _ v27 0 hf H locs ls hw (lv_sub hl [1, 2, 0] rfl)
  rw [hH, hlc] at goal
  exact goal
