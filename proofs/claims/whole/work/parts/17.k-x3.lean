abbrev rmX3_drop : Room := { frames := 0, cells := 0, slots := 0, locals := 0 }
theorem hd_X3_drop : yX3_drop.cls = RX3 ∧ yX3_drop.cls ≠ "java/lang/invoke/MethodHandle" ∧ yX3_drop.cls ≠ "java/lang/invoke/VarHandle" ∧ (parseMethodDescriptor yX3_drop.desc).map (fun d => d.parameters.length) = some 0 := by decide +kernel
set_option maxHeartbeats 4000000 in
set_option maxRecDepth 100000 in
theorem k_X3_drop (l : Launch) (D : va_G) (cA : ClassId) (tx ty : Nat) (o : Nat → Nat) (oR : St) (oT : St) (oB : St) (oC : St) (oG : St) (oR' : St) (hf : f_X3_drop oR = some (oR')) : Mv l yX3_drop wsX3_drop rmX3_drop D cA (z_X tx ty) [.ref (o 17)] (wX3 o cA oR oT oB oC oG) (wX3 o cA oR' oT oB oC oG) := by
  refine Mv.of (cc := cX3_drop) (maxL := 1) (by decide) rfl (Nat.le_of_ble_eq_true rfl) ?_
  intro p e s m below meth c A Q hx hb hml hown hts hK hA hZ hret ls hl hw
  replace hown : s.vm.findClass RX3 = some m.cls := hown
  have hl : lv_has ls 1 [(0, .ref (o 17))] := hl
  have hZo := z_X_ok tx ty
  have hi3 : ∀ w ∈ wsX30, w ∈ wsX3_drop := fun w h => List.mem_cons_of_mem _ (List.mem_append_right _ h)
  have q0 := hts (.fieldLink RX3 30 "ArcRings$Rings" "hunted" "Z") (by decide +kernel)
  have q1 := hts (.fieldLink RX3 34 "ArcRings$Rings" "size" "I") (by decide +kernel)
  unfold f_X3_drop at hf
  obtain ⟨H, hH⟩ : ∃ H, H = s.heap := ⟨_, rfl⟩
  obtain ⟨locs, hlc⟩ : ∃ locs : List Loc, locs = [] := ⟨_, rfl⟩
  have hw : Wd D A s.heap H locs (wX3 o cA oR oT oB oC oG) := by rw [hH, hlc]; exact hw
  have goal : W p l e rmX3_drop s m ([.ref (o 17)] : List Value).toArray below meth c H locs 0 0 Q (F0 m 0 ls []) := by
    clear hH hlc
    refine lv_aload_n hx hb dX3_drop_0 rfl (lv_at hl 0 rfl) ?_
    refine lv_iconst (v := 0) hx hb dX3_drop_1 (by decide) ?_
    refine w_put (ws' := (wX3 o cA ((sI oR 3 0)) oT oB oC oG)) hx hb hts hi3 tyX3 tyX3_ok nmX3 hown hK hw 0 rfl rfl 3 (by decide) q0 rfl rfl (by decide) (by decide) (Nat.le_of_ble_eq_true rfl) rfl dX3_drop_2 (fun H locs hw => ?_)
    refine lv_aload_n hx hb dX3_drop_5 rfl (lv_at hl 0 rfl) ?_
    refine lv_iconst (v := 0) hx hb dX3_drop_6 (by decide) ?_
    refine w_put (ws' := (wX3 o cA ((sI (sI oR 3 0) 4 0)) oT oB oC oG)) hx hb hts hi3 tyX3 tyX3_ok nmX3 hown hK hw 0 rfl rfl 4 (by decide) q1 rfl rfl rfl rfl (Nat.le_of_ble_eq_true rfl) rfl dX3_drop_7 (fun H locs hw => ?_)
    have e0_ := sm1 hf
    exact hret _ _ _ _ (by rw [← e0_]; exact hw) dX3_drop_10
  rw [hH, hlc] at goal
  exact goal
abbrev rmX3_ownerOf : Room := { frames := 0, cells := 0, slots := 0, locals := 0 }
theorem hd_X3_ownerOf : yX3_ownerOf.cls = RX3 ∧ yX3_ownerOf.cls ≠ "java/lang/invoke/MethodHandle" ∧ yX3_ownerOf.cls ≠ "java/lang/invoke/VarHandle" ∧ (parseMethodDescriptor yX3_ownerOf.desc).map (fun d => d.parameters.length) = some 1 := by decide +kernel
set_option maxHeartbeats 4000000 in
set_option maxRecDepth 100000 in
theorem k_X3_ownerOf (l : Launch) (D : va_G) (cA : ClassId) (tx ty : Nat) (o : Nat → Nat) (oR : St) (oT : St) (oB : St) (oC : St) (oG : St) (a1 : Int32) (r : Int32) (hf : f_X3_ownerOf oR a1 = some (r)) : Mi l yX3_ownerOf wsX3_ownerOf rmX3_ownerOf D cA (z_X tx ty) [.ref (o 17), .int a1] (wX3 o cA oR oT oB oC oG) r (wX3 o cA oR oT oB oC oG) := by
  refine Mi.of (cc := cX3_ownerOf) (maxL := 3) (ret := (some .int)) (plainFor_of_name (by decide)) rfl (Nat.le_of_ble_eq_true rfl) (Or.inl rfl) ?_
  intro p e s m below meth c A Q hx hb hml hown hts hK hA hZ hret ls hl hw
  replace hown : s.vm.findClass RX3 = some m.cls := hown
  have hl : lv_has ls 3 [(0, .ref (o 17)), (1, .int a1)] := hl
  have hZo := z_X_ok tx ty
  have hi3 : ∀ w ∈ wsX30, w ∈ wsX3_ownerOf := fun w h => List.mem_cons_of_mem _ (List.mem_append_right _ h)
  have q0 := hts (.fieldLink RX3 34 "ArcRings$Rings" "size" "I") (by decide +kernel)
  have q1 := hts (.fieldLink RX3 15 "ArcRings$Rings" "own" "[I") (by decide +kernel)
  have h_L2 : ∀ (v1 : Int32), ∀ (n : Nat) (v2 : Int32), f_X3_ownerOf_L2 oR v1 n v2 = some (r) → ∀ (H : Heap) (locs : List Loc) (ls : Array Slot), Wd D A s.heap H locs (wX3 o cA oR oT oB oC oG) → lv_has ls 3 [(0, .ref (o 17)), (1, .int v1), (2, .int v2)] → W p l e rmX3_ownerOf s m ([.ref (o 17), .int a1] : List Value).toArray below meth c H locs 0 0 Q (F0 m 2 ls []) := by
    intro v1 n
    induction n with
    | zero =>
      intro v2 hf
      have hf : none = some (r) := hf
      cases hf
    | succ n ih =>
      intro v2 hf H locs ls hw hl
      have hf := (f_X3_ownerOf_L2_s oR v1 n v2).symm.trans hf
      refine lv_iload_n hx hb dX3_ownerOf_2 rfl (lv_at hl 2 rfl) ?_
      refine lv_aload_n hx hb dX3_ownerOf_3 rfl (lv_at hl 0 rfl) ?_
      refine w_get hx hb hts hi3 hown hK hw 0 rfl rfl 4 (by decide) q0 rfl (v := .int (oR.1 4)) rfl dX3_ownerOf_4 ?_
      refine lv_icmp_ge (tgt := 32) hx hb dX3_ownerOf_7 (by decide) (fun c1 => ?_) (fun c1 => ?_)
      · have hf := if_t c1 hf
        refine lv_iconst (v := (-1)) hx hb dX3_ownerOf_32 (by decide) ?_
        have e0_ := sm1 hf
        exact hret _ _ _ _ _ hw e0_ (Or.inl rfl) dX3_ownerOf_33
      · have hf := if_f c1 hf
        refine lv_aload_n hx hb dX3_ownerOf_10 rfl (lv_at hl 0 rfl) ?_
        refine w_get hx hb hts hi3 hown hK hw 0 rfl rfl 6 (by decide) q1 rfl (v := .ref (o 19)) rfl dX3_ownerOf_11 ?_
        refine lv_iload_n hx hb dX3_ownerOf_14 rfl (lv_at hl 2 rfl) ?_
        obtain ⟨x2, g3, hf⟩ := bn1_e hf
        refine w_ald hx hb hK hw 2 rfl g3 dX3_ownerOf_15 ?_
        refine lv_iload_n hx hb dX3_ownerOf_16 rfl (lv_at hl 1 rfl) ?_
        refine lv_ishr hx hb dX3_ownerOf_17 ?_
        refine lv_iconst (v := 1) hx hb dX3_ownerOf_18 (by decide) ?_
        refine lv_iand hx hb dX3_ownerOf_19 ?_
        refine lv_iconst (v := 1) hx hb dX3_ownerOf_20 (by decide) ?_
        refine lv_icmp_ne (tgt := 26) hx hb dX3_ownerOf_21 (by decide) (fun c4 => ?_) (fun c4 => ?_)
        · have hf := if_f c4 hf
          refine lv_iinc (v := v2 + 1) (lv' := [(2, .int (v2 + 1)), (0, .ref (o 17)), (1, .int v1)]) hx hb dX3_ownerOf_26 hl (k := 2) rfl (by rfl) (by decide) rfl (fun ls hl => ?_)
          refine lv_goto (tgt := 2) hx hb dX3_ownerOf_29 (by decide) ?_
          exact ih (v2 + 1) hf H locs ls hw (lv_sub hl [1, 2, 0] rfl)
        · have hf := if_t c4 hf
          refine lv_iload_n hx hb dX3_ownerOf_24 rfl (lv_at hl 2 rfl) ?_
          have e0_ := sm1 hf
          exact hret _ _ _ _ _ hw e0_ (Or.inl rfl) dX3_ownerOf_25
  unfold f_X3_ownerOf at hf
  obtain ⟨H, hH⟩ : ∃ H, H = s.heap := ⟨_, rfl⟩
  obtain ⟨locs, hlc⟩ : ∃ locs : List Loc, locs = [] := ⟨_, rfl⟩
  have hw : Wd D A s.heap H locs (wX3 o cA oR oT oB oC oG) := by rw [hH, hlc]; exact hw
  have goal : W p l e rmX3_ownerOf s m ([.ref (o 17), .int a1] : List Value).toArray below meth c H locs 0 0 Q (F0 m 0 ls []) := by
    clear hH hlc
    refine lv_iconst (v := 0) hx hb dX3_ownerOf_0 (by decide) ?_
    refine lv_istore_n (lv' := [(2, .int 0), (0, .ref (o 17)), (1, .int a1)]) hx hb dX3_ownerOf_1 rfl hl (by decide) rfl (fun ls hl => ?_)
    exact h_L2 a1 _ 0 hf H locs ls hw (lv_sub hl [1, 2, 0] rfl)
  rw [hH, hlc] at goal
  exact goal
abbrev rmX3_worthOf : Room := { frames := 2, cells := 0, slots := 0, locals := 47 }
theorem hd_X3_worthOf : yX3_worthOf.cls = RX3 ∧ yX3_worthOf.cls ≠ "java/lang/invoke/MethodHandle" ∧ yX3_worthOf.cls ≠ "java/lang/invoke/VarHandle" ∧ (parseMethodDescriptor yX3_worthOf.desc).map (fun d => d.parameters.length) = some 2 := by decide +kernel
set_option maxHeartbeats 4000000 in
set_option maxRecDepth 100000 in
theorem k_X3_worthOf (l : Launch) (D : va_G) (cA : ClassId) (tx ty : Nat) (o : Nat → Nat) (oR : St) (oT : St) (oB : St) (oC : St) (oG : St) (a1 : Int32) (a2 : Int32) (r : Int32) (oG' : St) (hf : f_X3_worthOf oB oG a1 a2 = some (r, oG')) : Mi l yX3_worthOf wsX3_worthOf rmX3_worthOf D cA (z_X tx ty) [.ref (o 17), .int a1, .int a2] (wX3 o cA oR oT oB oC oG) r (wX3 o cA oR oT oB oC oG') := by
  refine Mi.of (cc := cX3_worthOf) (maxL := 5) (ret := (some .int)) (plainFor_of_name (by decide)) rfl (Nat.le_of_ble_eq_true rfl) (Or.inl rfl) ?_
  intro p e s m below meth c A Q hx hb hml hown hts hK hA hZ hret ls hl hw
  replace hown : s.vm.findClass RX3 = some m.cls := hown
  have hl : lv_has ls 5 [(0, .ref (o 17)), (1, .int a1), (2, .int a2)] := hl
  have hZo := z_X_ok tx ty
  have hi0 : ∀ w ∈ wsX00, w ∈ wsX3_worthOf := fun w h => List.mem_cons_of_mem _ (List.mem_append_left _ (List.mem_append_right _ h))
  have hi3 : ∀ w ∈ wsX30, w ∈ wsX3_worthOf := fun w h => List.mem_cons_of_mem _ (List.mem_append_left _ (List.mem_append_left _ (List.mem_append_right _ h)))
  have q0 := hts (.fieldLink RX3 18 "ArcRings$Rings" "board" "LArcRings$Board;") (by decide +kernel)
  have q1 := hts (.fieldLink RX3 65 "ArcRings$Board" "need" "I") (by decide +kernel)
  have q2 := hts (.fieldLink RX3 26 "ArcRings$Rings" "sight" "LArcRings$Sight;") (by decide +kernel)
  have q3 := hts (.fieldLink RX3 77 "ArcRings$Board" "round" "I") (by decide +kernel)
  unfold f_X3_worthOf at hf
  obtain ⟨H, hH⟩ : ∃ H, H = s.heap := ⟨_, rfl⟩
  obtain ⟨locs, hlc⟩ : ∃ locs : List Loc, locs = [] := ⟨_, rfl⟩
  have hw : Wd D A s.heap H locs (wX3 o cA oR oT oB oC oG) := by rw [hH, hlc]; exact hw
  have goal : W p l e rmX3_worthOf s m ([.ref (o 17), .int a1, .int a2] : List Value).toArray below meth c H locs 0 0 Q (F0 m 0 ls []) := by
    clear hH hlc
    refine lv_iload_n hx hb dX3_worthOf_0 rfl (lv_at hl 2 rfl) ?_
    obtain ⟨x1, g2, hf⟩ := bn1_e hf
    have fr := fr_X3_S o cA oR oT oB oC oG
    refine go_i (run_s (As := [.int a2]) (rest := []) ⟨hx, hb, hml, hown, hts⟩ (k_J6_bitCount_0f7a4 l D cA a2 x1 g2 H.size) (va_cwS 1 hts gX3_worthOf_J6_bitCount_0f7a4 rfl rfl rfl hd_J6_bitCount_0f7a4 ⟨Nat.le_of_ble_eq_true rfl, Nat.le_of_ble_eq_true rfl⟩) fr hw hK hA rfl hl.1 rfl (Nat.le_of_ble_eq_true rfl) dX3_worthOf_1 ⟨Nat.zero_le _, Nat.zero_le _⟩) fr hw hA (fun H locs hw => ?_)
    refine lv_istore_n (lv' := [(3, .int x1), (0, .ref (o 17)), (1, .int a1), (2, .int a2)]) hx hb dX3_worthOf_4 rfl hl (by decide) rfl (fun ls hl => ?_)
    refine lv_iload_n hx hb dX3_worthOf_5 rfl (lv_at hl 0 rfl) ?_
    refine lv_aload_n hx hb dX3_worthOf_6 rfl (lv_at hl 1 rfl) ?_
    refine w_get hx hb hts hi3 hown hK hw 0 rfl rfl 0 (by decide) q0 rfl (v := .ref (o 7)) rfl dX3_worthOf_7 ?_
    refine w_get hx hb hts hi0 hown hK hw 7 rfl rfl 6 (by decide) q1 rfl (v := .int (oB.1 6)) rfl dX3_worthOf_10 ?_
    refine lv_icmp_ge (tgt := 18) hx hb dX3_worthOf_13 (by decide) (fun c3 => ?_) (fun c3 => ?_)
    · have hf := if_t c3 hf
      refine lv_aload_n hx hb dX3_worthOf_18 rfl (lv_at hl 1 rfl) ?_
      refine w_get hx hb hts hi3 hown hK hw 0 rfl rfl 2 (by decide) q2 rfl (v := .ref (o 12)) rfl dX3_worthOf_19 ?_
      refine lv_iload_n hx hb dX3_worthOf_22 rfl (lv_at hl 2 rfl) ?_
      obtain ⟨oG4, g5, hf⟩ := bn1_e hf
      have fr := fr_X3_X4_oG_oB o cA oR oT oB oC oG oG4 oB
      refine go_v (run_v (As := [.int a1]) (rest := []) ⟨hx, hb, hml, hown, hts⟩ (k_X4_from l D cA tx ty o oG oB a1 oG4 g5 H.size) (cwV 1 hts gX3_worthOf_X4_from rfl rfl rfl hd_X4_from ⟨Nat.le_of_ble_eq_true rfl, Nat.le_of_ble_eq_true rfl⟩) fr hw hK hA hZo hZ (ci := 4) rfl rfl rfl rfl hl.1 rfl (Nat.le_of_ble_eq_true rfl) dX3_worthOf_23 ⟨Nat.zero_le _, Nat.zero_le _⟩) fr hw hA (fun H locs hw => ?_)
      refine lv_aload_n hx hb dX3_worthOf_26 rfl (lv_at hl 1 rfl) ?_
      refine w_get hx hb hts hi3 hown hK hw 0 rfl rfl 2 (by decide) q2 rfl (v := .ref (o 12)) rfl dX3_worthOf_27 ?_
      refine lv_iload_n hx hb dX3_worthOf_30 rfl (lv_at hl 3 rfl) ?_
      obtain ⟨x6, g7, hf⟩ := bn1_e hf
      have fr := fr_X3_X4_oG_oB o cA oR oT oB oC oG4 oG4 oB
      refine go_i (run_v (As := [.int a2]) (rest := []) ⟨hx, hb, hml, hown, hts⟩ (k_X4_span l D cA tx ty o oG4 oB a2 x6 g7 H.size) (cwV 1 hts gX3_worthOf_X4_span rfl rfl rfl hd_X4_span ⟨Nat.le_of_ble_eq_true rfl, Nat.le_of_ble_eq_true rfl⟩) fr hw hK hA hZo hZ (ci := 4) rfl rfl rfl rfl hl.1 rfl (Nat.le_of_ble_eq_true rfl) dX3_worthOf_31 ⟨Nat.zero_le _, Nat.zero_le _⟩) fr hw hA (fun H locs hw => ?_)
      refine lv_istore (lv' := [(4, .int x6), (3, .int x1), (0, .ref (o 17)), (1, .int a1), (2, .int a2)]) hx hb dX3_worthOf_34 hl (by decide) rfl (fun ls hl => ?_)
      refine lv_iload hx hb dX3_worthOf_36 (lv_at hl 0 rfl) ?_
      refine lv_aload_n hx hb dX3_worthOf_38 rfl (lv_at hl 2 rfl) ?_
      refine w_get hx hb hts hi3 hown hK hw 0 rfl rfl 0 (by decide) q0 rfl (v := .ref (o 7)) rfl dX3_worthOf_39 ?_
      refine w_get hx hb hts hi0 hown hK hw 7 rfl rfl 7 (by decide) q3 rfl (v := .int (oB.1 7)) rfl dX3_worthOf_42 ?_
      refine lv_icmp_ge (tgt := 52) hx hb dX3_worthOf_45 (by decide) (fun c8 => ?_) (fun c8 => ?_)
      · have hf := if_t c8 hf
        refine lv_iload_n hx hb dX3_worthOf_52 rfl (lv_at hl 1 rfl) ?_
        refine lv_iload hx hb dX3_worthOf_53 (lv_at hl 0 rfl) ?_
        refine lv_imul hx hb dX3_worthOf_55 ?_
        obtain ⟨e0_, e1_⟩ := sm2 hf
        exact hret _ _ _ _ _ (by rw [← e1_]; exact hw) e0_ (Or.inl rfl) dX3_worthOf_56
      · have hf := if_f c8 hf
        refine lv_iconst (v := 0) hx hb dX3_worthOf_48 (by decide) ?_
        refine lv_goto (tgt := 56) hx hb dX3_worthOf_49 (by decide) ?_
        obtain ⟨e0_, e1_⟩ := sm2 hf
        exact hret _ _ _ _ _ (by rw [← e1_]; exact hw) e0_ (Or.inl rfl) dX3_worthOf_56
    · have hf := if_f c3 hf
      refine lv_iconst (v := 0) hx hb dX3_worthOf_16 (by decide) ?_
      obtain ⟨e0_, e1_⟩ := sm2 hf
      exact hret _ _ _ _ _ (by rw [← e1_]; exact hw) e0_ (Or.inl rfl) dX3_worthOf_17
  rw [hH, hlc] at goal
  exact goal
abbrev rmX3_bestPlace : Room := { frames := 3, cells := 0, slots := 0, locals := 71 }
theorem hd_X3_bestPlace : yX3_bestPlace.cls = RX3 ∧ yX3_bestPlace.cls ≠ "java/lang/invoke/MethodHandle" ∧ yX3_bestPlace.cls ≠ "java/lang/invoke/VarHandle" ∧ (parseMethodDescriptor yX3_bestPlace.desc).map (fun d => d.parameters.length) = some 1 := by decide +kernel
set_option maxHeartbeats 4000000 in
set_option maxRecDepth 100000 in
theorem k_X3_bestPlace (l : Launch) (D : va_G) (cA : ClassId) (tx ty : Nat) (o : Nat → Nat) (oR : St) (oT : St) (oB : St) (oC : St) (oG : St) (a1 : Int32) (r : Int32) (oG' : St) (hf : f_X3_bestPlace oT oB oG a1 = some (r, oG')) : Mi l yX3_bestPlace wsX3_bestPlace rmX3_bestPlace D cA (z_X tx ty) [.ref (o 17), .int a1] (wX3 o cA oR oT oB oC oG) r (wX3 o cA oR oT oB oC oG') := by
  refine Mi.of (cc := cX3_bestPlace) (maxL := 6) (ret := (some .int)) (plainFor_of_name (by decide)) rfl (Nat.le_of_ble_eq_true rfl) (Or.inl rfl) ?_
  intro p e s m below meth c A Q hx hb hml hown hts hK hA hZ hret ls hl hw
  replace hown : s.vm.findClass RX3 = some m.cls := hown
  have hl : lv_has ls 6 [(0, .ref (o 17)), (1, .int a1)] := hl
  have hZo := z_X_ok tx ty
  have hi3 : ∀ w ∈ wsX30, w ∈ wsX3_bestPlace := fun w h => List.mem_cons_of_mem _ (List.mem_append_left _ (List.mem_append_left _ (List.mem_append_left _ (List.mem_append_right _ h))))
  have hi5 : ∀ w ∈ wsX50, w ∈ wsX3_bestPlace := fun w h => List.mem_cons_of_mem _ (List.mem_append_left _ (List.mem_append_left _ (List.mem_append_right _ h)))
  have q0 := hts (.fieldLink RX3 22 "ArcRings$Rings" "table" "LArcRings$Table;") (by decide +kernel)
  have q1 := hts (.fieldLink RX3 55 "ArcRings$Table" "size" "I") (by decide +kernel)
  have q2 := hts (.fieldLink RX3 52 "ArcRings$Table" "supporters" "[I") (by decide +kernel)
  have h_L7 : ∀ (v1 : Int32), ∀ (n : Nat) (v2 : Int32) (v3 : Int32) (v4 : Int32) (oG : St), f_X3_bestPlace_L7 oT oB v1 n v2 v3 v4 oG = some (r, oG') → ∀ (H : Heap) (locs : List Loc) (ls : Array Slot), Wd D A s.heap H locs (wX3 o cA oR oT oB oC oG) → lv_has ls 6 [(0, .ref (o 17)), (1, .int v1), (2, .int v2), (3, .int v3), (4, .int v4)] → W p l e rmX3_bestPlace s m ([.ref (o 17), .int a1] : List Value).toArray below meth c H locs 0 0 Q (F0 m 7 ls []) := by
    intro v1 n
    induction n with
    | zero =>
      intro v2 v3 v4 oG hf
      have hf : none = some (r, oG') := hf
      cases hf
    | succ n ih =>
      intro v2 v3 v4 oG hf H locs ls hw hl
      have hf := (f_X3_bestPlace_L7_s oT oB v1 n v2 v3 v4 oG).symm.trans hf
      refine lv_iload hx hb dX3_bestPlace_7 (lv_at hl 4 rfl) ?_
      refine lv_aload_n hx hb dX3_bestPlace_9 rfl (lv_at hl 0 rfl) ?_
      refine w_get hx hb hts hi3 hown hK hw 0 rfl rfl 1 (by decide) q0 rfl (v := .ref (o 13)) rfl dX3_bestPlace_10 ?_
      refine w_get hx hb hts hi5 hown hK hw 3 rfl rfl 4 (by decide) q1 rfl (v := .int (oT.1 4)) rfl dX3_bestPlace_13 ?_
      refine lv_icmp_ge (tgt := 64) hx hb dX3_bestPlace_16 (by decide) (fun c1 => ?_) (fun c1 => ?_)
      · have hf := if_t c1 hf
        refine lv_iload_n hx hb dX3_bestPlace_64 rfl (lv_at hl 2 rfl) ?_
        obtain ⟨e0_, e1_⟩ := sm2 hf
        exact hret _ _ _ _ _ (by rw [← e1_]; exact hw) e0_ (Or.inl rfl) dX3_bestPlace_65
      · have hf := if_f c1 hf
        refine lv_aload_n hx hb dX3_bestPlace_19 rfl (lv_at hl 0 rfl) ?_
        refine lv_aload_n hx hb dX3_bestPlace_20 rfl (lv_at hl 0 rfl) ?_
        refine w_get hx hb hts hi3 hown hK hw 0 rfl rfl 1 (by decide) q0 rfl (v := .ref (o 13)) rfl dX3_bestPlace_21 ?_
        refine lv_iload hx hb dX3_bestPlace_24 (lv_at hl 4 rfl) ?_
        obtain ⟨x2, g3, hf⟩ := bn1_e hf
        have fr := fr_X3_X5_oT_oB_oC_oG o cA oR oT oB oC oG oT oB oC oG
        refine go_i (run_v (As := [.int v4]) (rest := [.ref (o 17)]) ⟨hx, hb, hml, hown, hts⟩ (k_X5_keyAt l D cA tx ty o oT oB oC oG v4 x2 g3 H.size) (cwV 1 hts gX3_bestPlace_X5_keyAt rfl rfl rfl hd_X5_keyAt ⟨Nat.le_of_ble_eq_true rfl, Nat.le_of_ble_eq_true rfl⟩) fr hw hK hA hZo hZ (ci := 5) rfl rfl rfl rfl hl.1 rfl (Nat.le_of_ble_eq_true rfl) dX3_bestPlace_26 ⟨Nat.zero_le _, Nat.zero_le _⟩) fr hw hA (fun H locs hw => ?_)
        refine lv_aload_n hx hb dX3_bestPlace_29 rfl (lv_at hl 0 rfl) ?_
        refine w_get hx hb hts hi3 hown hK hw 0 rfl rfl 1 (by decide) q0 rfl (v := .ref (o 13)) rfl dX3_bestPlace_30 ?_
        refine w_get hx hb hts hi5 hown hK hw 3 rfl rfl 9 (by decide) q2 rfl (v := .ref (o 16)) rfl dX3_bestPlace_33 ?_
        refine lv_iload hx hb dX3_bestPlace_36 (lv_at hl 4 rfl) ?_
        obtain ⟨x4, g5, hf⟩ := bn1_e hf
        refine w_ald hx hb hK hw 6 rfl g5 dX3_bestPlace_38 ?_
        refine lv_iload_n hx hb dX3_bestPlace_39 rfl (lv_at hl 1 rfl) ?_
        refine lv_iand hx hb dX3_bestPlace_40 ?_
        obtain ⟨x6, oG7, g8, hf⟩ := bn2_e hf
        have fr := fr_X3_X3_oR_oT_oB_oC_oG o cA oR oT oB oC oG oR oT oB oC oG7
        refine go_i (run_v (As := [.int x2, .int (x4 &&& v1)]) (rest := []) ⟨hx, hb, hml, hown, hts⟩ (k_X3_worthOf l D cA tx ty o oR oT oB oC oG x2 (x4 &&& v1) x6 oG7 g8 H.size) (cwV 2 hts gX3_bestPlace_X3_worthOf rfl rfl rfl hd_X3_worthOf ⟨Nat.le_of_ble_eq_true rfl, Nat.le_of_ble_eq_true rfl⟩) fr hw hK hA hZo hZ (ci := 3) rfl rfl rfl rfl hl.1 rfl (Nat.le_of_ble_eq_true rfl) dX3_bestPlace_41 ⟨Nat.zero_le _, Nat.zero_le _⟩) fr hw hA (fun H locs hw => ?_)
        refine lv_istore (lv' := [(5, .int x6), (0, .ref (o 17)), (1, .int v1), (2, .int v2), (3, .int v3), (4, .int v4)]) hx hb dX3_bestPlace_44 hl (by decide) rfl (fun ls hl => ?_)
        refine lv_iload hx hb dX3_bestPlace_46 (lv_at hl 0 rfl) ?_
        refine lv_iload_n hx hb dX3_bestPlace_48 rfl (lv_at hl 4 rfl) ?_
        refine lv_icmp_le (tgt := 58) hx hb dX3_bestPlace_49 (by decide) (fun c9 => ?_) (fun c9 => ?_)
        · have hf := if_t c9 hf
          refine lv_iinc (v := v4 + 1) (lv' := [(4, .int (v4 + 1)), (5, .int x6), (0, .ref (o 17)), (1, .int v1), (2, .int v2), (3, .int v3)]) hx hb dX3_bestPlace_58 hl (k := 5) rfl (by rfl) (by decide) rfl (fun ls hl => ?_)
          refine lv_goto (tgt := 7) hx hb dX3_bestPlace_61 (by decide) ?_
          exact ih v2 v3 (v4 + 1) oG7 hf H locs ls hw (lv_sub hl [2, 3, 4, 5, 0] rfl)
        · have hf := if_f c9 hf
          refine lv_iload hx hb dX3_bestPlace_52 (lv_at hl 0 rfl) ?_
          refine lv_istore_n (lv' := [(3, .int x6), (5, .int x6), (0, .ref (o 17)), (1, .int v1), (2, .int v2), (4, .int v4)]) hx hb dX3_bestPlace_54 rfl hl (by decide) rfl (fun ls hl => ?_)
          refine lv_iload hx hb dX3_bestPlace_55 (lv_at hl 5 rfl) ?_
          refine lv_istore_n (lv' := [(2, .int v4), (3, .int x6), (5, .int x6), (0, .ref (o 17)), (1, .int v1), (4, .int v4)]) hx hb dX3_bestPlace_57 rfl hl (by decide) rfl (fun ls hl => ?_)
          refine lv_iinc (v := v4 + 1) (lv' := [(4, .int (v4 + 1)), (2, .int v4), (3, .int x6), (5, .int x6), (0, .ref (o 17)), (1, .int v1)]) hx hb dX3_bestPlace_58 hl (k := 5) rfl (by rfl) (by decide) rfl (fun ls hl => ?_)
          refine lv_goto (tgt := 7) hx hb dX3_bestPlace_61 (by decide) ?_
          exact ih v4 x6 (v4 + 1) oG7 hf H locs ls hw (lv_sub hl [4, 5, 1, 2, 0] rfl)
  unfold f_X3_bestPlace at hf
  obtain ⟨H, hH⟩ : ∃ H, H = s.heap := ⟨_, rfl⟩
  obtain ⟨locs, hlc⟩ : ∃ locs : List Loc, locs = [] := ⟨_, rfl⟩
  have hw : Wd D A s.heap H locs (wX3 o cA oR oT oB oC oG) := by rw [hH, hlc]; exact hw
  have goal : W p l e rmX3_bestPlace s m ([.ref (o 17), .int a1] : List Value).toArray below meth c H locs 0 0 Q (F0 m 0 ls []) := by
    clear hH hlc
    refine lv_iconst (v := (-1)) hx hb dX3_bestPlace_0 (by decide) ?_
    refine lv_istore_n (lv' := [(2, .int ((-1))), (0, .ref (o 17)), (1, .int a1)]) hx hb dX3_bestPlace_1 rfl hl (by decide) rfl (fun ls hl => ?_)
    refine lv_iconst (v := 0) hx hb dX3_bestPlace_2 (by decide) ?_
    refine lv_istore_n (lv' := [(3, .int 0), (2, .int ((-1))), (0, .ref (o 17)), (1, .int a1)]) hx hb dX3_bestPlace_3 rfl hl (by decide) rfl (fun ls hl => ?_)
    refine lv_iconst (v := 0) hx hb dX3_bestPlace_4 (by decide) ?_
    refine lv_istore (lv' := [(4, .int 0), (3, .int 0), (2, .int ((-1))), (0, .ref (o 17)), (1, .int a1)]) hx hb dX3_bestPlace_5 hl (by decide) rfl (fun ls hl => ?_)
    exact h_L7 a1 _ ((-1)) 0 0 oG hf H locs ls hw (lv_sub hl [3, 4, 2, 1, 0] rfl)
  rw [hH, hlc] at goal
  exact goal
abbrev rmX3_keepBest : Room := { frames := 4, cells := 0, slots := 0, locals := 96 }
theorem hd_X3_keepBest : yX3_keepBest.cls = RX3 ∧ yX3_keepBest.cls ≠ "java/lang/invoke/MethodHandle" ∧ yX3_keepBest.cls ≠ "java/lang/invoke/VarHandle" ∧ (parseMethodDescriptor yX3_keepBest.desc).map (fun d => d.parameters.length) = some 0 := by decide +kernel
set_option maxHeartbeats 4000000 in
set_option maxRecDepth 100000 in
theorem k_X3_keepBest (l : Launch) (D : va_G) (cA : ClassId) (tx ty : Nat) (o : Nat → Nat) (oR : St) (oT : St) (oB : St) (oC : St) (oG : St) (oR' : St) (oG' : St) (hf : f_X3_keepBest oR oT oB oG = some (oR', oG')) : Mv l yX3_keepBest wsX3_keepBest rmX3_keepBest D cA (z_X tx ty) [.ref (o 17)] (wX3 o cA oR oT oB oC oG) (wX3 o cA oR' oT oB oC oG') := by
  refine Mv.of (cc := cX3_keepBest) (maxL := 3) (by decide) rfl (Nat.le_of_ble_eq_true rfl) ?_
  intro p e s m below meth c A Q hx hb hml hown hts hK hA hZ hret ls hl hw
  replace hown : s.vm.findClass RX3 = some m.cls := hown
  have hl : lv_has ls 3 [(0, .ref (o 17))] := hl
  have hZo := z_X_ok tx ty
  have hi0 : ∀ w ∈ wsX00, w ∈ wsX3_keepBest := fun w h => List.mem_cons_of_mem _ (List.mem_append_left _ (List.mem_append_left _ (List.mem_append_right _ h)))
  have hi3 : ∀ w ∈ wsX30, w ∈ wsX3_keepBest := fun w h => List.mem_cons_of_mem _ (List.mem_append_left _ (List.mem_append_left _ (List.mem_append_left _ (List.mem_append_right _ h))))
  have hi5 : ∀ w ∈ wsX50, w ∈ wsX3_keepBest := fun w h => List.mem_cons_of_mem _ (List.mem_append_left _ (List.mem_append_right _ h))
  have q0 := hts (.fieldLink RX3 30 "ArcRings$Rings" "hunted" "Z") (by decide +kernel)
  have q1 := hts (.fieldLink RX3 34 "ArcRings$Rings" "size" "I") (by decide +kernel)
  have q2 := hts (.fieldLink RX3 18 "ArcRings$Rings" "board" "LArcRings$Board;") (by decide +kernel)
  have q3 := hts (.fieldLink RX3 38 "ArcRings$Board" "dots" "I") (by decide +kernel)
  have q4 := hts (.fieldLink RX3 9 "ArcRings$Rings" "keys" "[I") (by decide +kernel)
  have q5 := hts (.fieldLink RX3 22 "ArcRings$Rings" "table" "LArcRings$Table;") (by decide +kernel)
  have q6 := hts (.fieldLink RX3 15 "ArcRings$Rings" "own" "[I") (by decide +kernel)
  have q7 := hts (.fieldLink RX3 52 "ArcRings$Table" "supporters" "[I") (by decide +kernel)
  have h_L22 : ∀ (n : Nat) (v1 : Int32) (oR : St) (oG : St), f_X3_keepBest_L22 oT oB n v1 oR oG = some (oR', oG') → ∀ (H : Heap) (locs : List Loc) (ls : Array Slot), Wd D A s.heap H locs (wX3 o cA oR oT oB oC oG) → lv_has ls 3 [(0, .ref (o 17)), (1, .int v1)] → W p l e rmX3_keepBest s m ([.ref (o 17)] : List Value).toArray below meth c H locs 0 0 Q (F0 m 22 ls []) := by
    intro n
    induction n with
    | zero =>
      intro v1 oR oG hf
      have hf : none = some (oR', oG') := hf
      cases hf
    | succ n ih =>
      intro v1 oR oG hf H locs ls hw hl
      have hf := (f_X3_keepBest_L22_s oT oB n v1 oR oG).symm.trans hf
      refine lv_aload_n hx hb dX3_keepBest_22 rfl (lv_at hl 0 rfl) ?_
      refine w_get hx hb hts hi3 hown hK hw 0 rfl rfl 4 (by decide) q1 rfl (v := .int (oR.1 4)) rfl dX3_keepBest_23 ?_
      refine lv_bipush (v := 7) hx hb dX3_keepBest_26 (by decide) ?_
      refine lv_icmp_ge (tgt := 107) hx hb dX3_keepBest_28 (by decide) (fun c3 => ?_) (fun c3 => ?_)
      · have hf := if_t c3 hf
        obtain ⟨e0_, e1_⟩ := sm2 hf
        exact hret _ _ _ _ (by rw [← e0_, ← e1_]; exact hw) dX3_keepBest_107
      · have hf := if_f c3 hf
        refine lv_aload_n hx hb dX3_keepBest_31 rfl (lv_at hl 0 rfl) ?_
        refine lv_iload_n hx hb dX3_keepBest_32 rfl (lv_at hl 1 rfl) ?_
        obtain ⟨x4, oG5, g6, hf⟩ := bn2_e hf
        have fr := fr_X3_X3_oR_oT_oB_oC_oG o cA oR oT oB oC oG oR oT oB oC oG5
        refine go_i (run_v (As := [.int v1]) (rest := []) ⟨hx, hb, hml, hown, hts⟩ (k_X3_bestPlace l D cA tx ty o oR oT oB oC oG v1 x4 oG5 g6 H.size) (cwV 1 hts gX3_keepBest_X3_bestPlace rfl rfl rfl hd_X3_bestPlace ⟨Nat.le_of_ble_eq_true rfl, Nat.le_of_ble_eq_true rfl⟩) fr hw hK hA hZo hZ (ci := 3) rfl rfl rfl rfl hl.1 rfl (Nat.le_of_ble_eq_true rfl) dX3_keepBest_33 ⟨Nat.zero_le _, Nat.zero_le _⟩) fr hw hA (fun H locs hw => ?_)
        refine lv_istore_n (lv' := [(2, .int x4), (0, .ref (o 17)), (1, .int v1)]) hx hb dX3_keepBest_36 rfl hl (by decide) rfl (fun ls hl => ?_)
        refine lv_iload_n hx hb dX3_keepBest_37 rfl (lv_at hl 0 rfl) ?_
        refine lv_iconst (v := (-1)) hx hb dX3_keepBest_38 (by decide) ?_
        refine lv_icmp_ne (tgt := 43) hx hb dX3_keepBest_39 (by decide) (fun c7 => ?_) (fun c7 => ?_)
        · have hf := if_f c7 hf
          refine lv_aload_n hx hb dX3_keepBest_43 rfl (lv_at hl 1 rfl) ?_
          refine w_get hx hb hts hi3 hown hK hw 0 rfl rfl 5 (by decide) q4 rfl (v := .ref (o 18)) rfl dX3_keepBest_44 ?_
          refine lv_aload_n hx hb dX3_keepBest_47 rfl (lv_at hl 1 rfl) ?_
          refine w_get hx hb hts hi3 hown hK hw 0 rfl rfl 4 (by decide) q1 rfl (v := .int (oR.1 4)) rfl dX3_keepBest_48 ?_
          refine lv_aload_n hx hb dX3_keepBest_51 rfl (lv_at hl 1 rfl) ?_
          refine w_get hx hb hts hi3 hown hK hw 0 rfl rfl 1 (by decide) q5 rfl (v := .ref (o 13)) rfl dX3_keepBest_52 ?_
          refine lv_iload_n hx hb dX3_keepBest_55 rfl (lv_at hl 0 rfl) ?_
          obtain ⟨x8, g9, hf⟩ := bn1_e hf
          have fr := fr_X3_X5_oT_oB_oC_oG o cA oR oT oB oC oG5 oT oB oC oG5
          refine go_i (run_v (As := [.int x4]) (rest := [.int (oR.1 4), .ref (o 18)]) ⟨hx, hb, hml, hown, hts⟩ (k_X5_keyAt l D cA tx ty o oT oB oC oG5 x4 x8 g9 H.size) (cwV 1 hts gX3_keepBest_X5_keyAt rfl rfl rfl hd_X5_keyAt ⟨Nat.le_of_ble_eq_true rfl, Nat.le_of_ble_eq_true rfl⟩) fr hw hK hA hZo hZ (ci := 5) rfl rfl rfl rfl hl.1 rfl (Nat.le_of_ble_eq_true rfl) dX3_keepBest_56 ⟨Nat.zero_le _, Nat.zero_le _⟩) fr hw hA (fun H locs hw => ?_)
          obtain ⟨oR11, g10, hf⟩ := bn1_e hf
          refine w_aws hx hb hK hw 1 rfl g10 (fun z => (wX3 o cA z oT oB oC oG5)) (fun _ => rfl) dX3_keepBest_59 (fun H locs hw => ?_)
          refine lv_aload_n hx hb dX3_keepBest_60 rfl (lv_at hl 1 rfl) ?_
          refine w_get hx hb hts hi3 hown hK hw 0 rfl rfl 6 (by decide) q6 rfl (v := .ref (o 19)) rfl dX3_keepBest_61 ?_
          refine lv_aload_n hx hb dX3_keepBest_64 rfl (lv_at hl 1 rfl) ?_
          refine w_get hx hb hts hi3 hown hK hw 0 rfl rfl 4 (by decide) q1 rfl (v := .int (oR11.1 4)) rfl dX3_keepBest_65 ?_
          refine lv_aload_n hx hb dX3_keepBest_68 rfl (lv_at hl 1 rfl) ?_
          refine w_get hx hb hts hi3 hown hK hw 0 rfl rfl 1 (by decide) q5 rfl (v := .ref (o 13)) rfl dX3_keepBest_69 ?_
          refine w_get hx hb hts hi5 hown hK hw 3 rfl rfl 9 (by decide) q7 rfl (v := .ref (o 16)) rfl dX3_keepBest_72 ?_
          refine lv_iload_n hx hb dX3_keepBest_75 rfl (lv_at hl 0 rfl) ?_
          obtain ⟨x12, g13, hf⟩ := bn1_e hf
          refine w_ald hx hb hK hw 6 rfl g13 dX3_keepBest_76 ?_
          refine lv_iload_n hx hb dX3_keepBest_77 rfl (lv_at hl 2 rfl) ?_
          refine lv_iand hx hb dX3_keepBest_78 ?_
          obtain ⟨oR15, g14, hf⟩ := bn1_e hf
          refine w_aws hx hb hK hw 2 rfl g14 (fun z => (wX3 o cA z oT oB oC oG5)) (fun _ => rfl) dX3_keepBest_79 (fun H locs hw => ?_)
          refine lv_iload_n hx hb dX3_keepBest_80 rfl (lv_at hl 2 rfl) ?_
          refine lv_aload_n hx hb dX3_keepBest_81 rfl (lv_at hl 1 rfl) ?_
          refine w_get hx hb hts hi3 hown hK hw 0 rfl rfl 6 (by decide) q6 rfl (v := .ref (o 19)) rfl dX3_keepBest_82 ?_
          refine lv_aload_n hx hb dX3_keepBest_85 rfl (lv_at hl 1 rfl) ?_
          refine w_get hx hb hts hi3 hown hK hw 0 rfl rfl 4 (by decide) q1 rfl (v := .int (oR15.1 4)) rfl dX3_keepBest_86 ?_
          obtain ⟨x16, g17, hf⟩ := bn1_e hf
          refine w_ald hx hb hK hw 2 rfl g17 dX3_keepBest_89 ?_
          refine lv_iconst (v := (-1)) hx hb dX3_keepBest_90 (by decide) ?_
          refine lv_ixor hx hb dX3_keepBest_91 ?_
          refine lv_iand hx hb dX3_keepBest_92 ?_
          refine lv_istore_n (lv' := [(1, .int (v1 &&& (x16 ^^^ ((-1))))), (2, .int x4), (0, .ref (o 17))]) hx hb dX3_keepBest_93 rfl hl (by decide) rfl (fun ls hl => ?_)
          refine lv_aload_n hx hb dX3_keepBest_94 rfl (lv_at hl 2 rfl) ?_
          refine lv_dup hx hb dX3_keepBest_95 rfl ?_
          refine w_get hx hb hts hi3 hown hK hw 0 rfl rfl 4 (by decide) q1 rfl (v := .int (oR15.1 4)) rfl dX3_keepBest_96 ?_
          refine lv_iconst (v := 1) hx hb dX3_keepBest_99 (by decide) ?_
          refine lv_iadd hx hb dX3_keepBest_100 ?_
          refine w_put (ws' := (wX3 o cA ((sI oR15 4 ((oR15.1 4) + 1))) oT oB oC oG5)) hx hb hts hi3 tyX3 tyX3_ok nmX3 hown hK hw 0 rfl rfl 4 (by decide) q1 rfl rfl rfl rfl (Nat.le_of_ble_eq_true rfl) rfl dX3_keepBest_101 (fun H locs hw => ?_)
          refine lv_goto (tgt := 22) hx hb dX3_keepBest_104 (by decide) ?_
          exact ih (v1 &&& (x16 ^^^ ((-1)))) ((sI oR15 4 ((oR15.1 4) + 1))) oG5 hf H locs ls hw (lv_sub hl [2, 0] rfl)
        · have hf := if_t c7 hf
          obtain ⟨e0_, e1_⟩ := sm2 hf
          exact hret _ _ _ _ (by rw [← e0_, ← e1_]; exact hw) dX3_keepBest_42
  unfold f_X3_keepBest at hf
  obtain ⟨H, hH⟩ : ∃ H, H = s.heap := ⟨_, rfl⟩
  obtain ⟨locs, hlc⟩ : ∃ locs : List Loc, locs = [] := ⟨_, rfl⟩
  have hw : Wd D A s.heap H locs (wX3 o cA oR oT oB oC oG) := by rw [hH, hlc]; exact hw
  have goal : W p l e rmX3_keepBest s m ([.ref (o 17)] : List Value).toArray below meth c H locs 0 0 Q (F0 m 0 ls []) := by
    clear hH hlc
    refine lv_aload_n hx hb dX3_keepBest_0 rfl (lv_at hl 0 rfl) ?_
    refine lv_iconst (v := 1) hx hb dX3_keepBest_1 (by decide) ?_
    refine w_put (ws' := (wX3 o cA ((sI oR 3 1)) oT oB oC oG)) hx hb hts hi3 tyX3 tyX3_ok nmX3 hown hK hw 0 rfl rfl 3 (by decide) q0 rfl rfl (by decide) (by decide) (Nat.le_of_ble_eq_true rfl) rfl dX3_keepBest_2 (fun H locs hw => ?_)
    refine lv_aload_n hx hb dX3_keepBest_5 rfl (lv_at hl 0 rfl) ?_
    refine lv_iconst (v := 0) hx hb dX3_keepBest_6 (by decide) ?_
    refine w_put (ws' := (wX3 o cA ((sI (sI oR 3 1) 4 0)) oT oB oC oG)) hx hb hts hi3 tyX3 tyX3_ok nmX3 hown hK hw 0 rfl rfl 4 (by decide) q1 rfl rfl rfl rfl (Nat.le_of_ble_eq_true rfl) rfl dX3_keepBest_7 (fun H locs hw => ?_)
    refine lv_iconst (v := 1) hx hb dX3_keepBest_10 (by decide) ?_
    refine lv_aload_n hx hb dX3_keepBest_11 rfl (lv_at hl 0 rfl) ?_
    refine w_get hx hb hts hi3 hown hK hw 0 rfl rfl 0 (by decide) q2 rfl (v := .ref (o 7)) rfl dX3_keepBest_12 ?_
    refine w_get hx hb hts hi0 hown hK hw 7 rfl rfl 2 (by decide) q3 rfl (v := .int (oB.1 2)) rfl dX3_keepBest_15 ?_
    refine lv_ishl hx hb dX3_keepBest_18 ?_
    refine lv_iconst (v := 1) hx hb dX3_keepBest_19 (by decide) ?_
    refine lv_isub hx hb dX3_keepBest_20 ?_
    obtain ⟨y1, e2, hf⟩ := bn1_e hf
    refine w_nmi (sm1 e2) ?_
    refine lv_istore_n (lv' := [(1, .int y1), (0, .ref (o 17))]) hx hb dX3_keepBest_21 rfl hl (by decide) rfl (fun ls hl => ?_)
    exact h_L22  _ y1 ((sI (sI oR 3 1) 4 0)) oG hf H locs ls hw (lv_sub hl [1, 0] rfl)
  rw [hH, hlc] at goal
  exact goal
abbrev rmX3_nearestRing : Room := { frames := 2, cells := 0, slots := 0, locals := 53 }
theorem hd_X3_nearestRing : yX3_nearestRing.cls = RX3 ∧ yX3_nearestRing.cls ≠ "java/lang/invoke/MethodHandle" ∧ yX3_nearestRing.cls ≠ "java/lang/invoke/VarHandle" ∧ (parseMethodDescriptor yX3_nearestRing.desc).map (fun d => d.parameters.length) = some 1 := by decide +kernel
set_option maxHeartbeats 4000000 in
set_option maxRecDepth 100000 in
theorem k_X3_nearestRing (l : Launch) (D : va_G) (cA : ClassId) (tx ty : Nat) (o : Nat → Nat) (oR : St) (oT : St) (oB : St) (oC : St) (oG : St) (a1 : Int32) (r : Int32) (oG' : St) (hf : f_X3_nearestRing oR oB oG a1 = some (r, oG')) : Mi l yX3_nearestRing wsX3_nearestRing rmX3_nearestRing D cA (z_X tx ty) [.ref (o 17), .int a1] (wX3 o cA oR oT oB oC oG) r (wX3 o cA oR oT oB oC oG') := by
  refine Mi.of (cc := cX3_nearestRing) (maxL := 5) (ret := (some .int)) (plainFor_of_name (by decide)) rfl (Nat.le_of_ble_eq_true rfl) (Or.inl rfl) ?_
  intro p e s m below meth c A Q hx hb hml hown hts hK hA hZ hret ls hl hw
  replace hown : s.vm.findClass RX3 = some m.cls := hown
  have hl : lv_has ls 5 [(0, .ref (o 17)), (1, .int a1)] := hl
  have hZo := z_X_ok tx ty
  have hi3 : ∀ w ∈ wsX30, w ∈ wsX3_nearestRing := fun w h => List.mem_cons_of_mem _ (List.mem_append_left _ (List.mem_append_left _ (List.mem_append_right _ h)))
  have q0 := hts (.fieldLink RX3 34 "ArcRings$Rings" "size" "I") (by decide +kernel)
  have q1 := hts (.fieldLink RX3 26 "ArcRings$Rings" "sight" "LArcRings$Sight;") (by decide +kernel)
  have q2 := hts (.fieldLink RX3 9 "ArcRings$Rings" "keys" "[I") (by decide +kernel)
  have h_L7 : ∀ (v1 : Int32), ∀ (n : Nat) (v2 : Int32) (v3 : Int32) (v4 : Int32) (oG : St), f_X3_nearestRing_L7 oR oB v1 n v2 v3 v4 oG = some (r, oG') → ∀ (H : Heap) (locs : List Loc) (ls : Array Slot), Wd D A s.heap H locs (wX3 o cA oR oT oB oC oG) → lv_has ls 5 [(0, .ref (o 17)), (1, .int v1), (2, .int v2), (3, .int v3), (4, .int v4)] → W p l e rmX3_nearestRing s m ([.ref (o 17), .int a1] : List Value).toArray below meth c H locs 0 0 Q (F0 m 7 ls []) := by
    intro v1 n
    induction n with
    | zero =>
      intro v2 v3 v4 oG hf
      have hf : none = some (r, oG') := hf
      cases hf
    | succ n ih =>
      intro v2 v3 v4 oG hf H locs ls hw hl
      have hf := (f_X3_nearestRing_L7_s oR oB v1 n v2 v3 v4 oG).symm.trans hf
      refine lv_iload hx hb dX3_nearestRing_7 (lv_at hl 4 rfl) ?_
      refine lv_aload_n hx hb dX3_nearestRing_9 rfl (lv_at hl 0 rfl) ?_
      refine w_get hx hb hts hi3 hown hK hw 0 rfl rfl 4 (by decide) q0 rfl (v := .int (oR.1 4)) rfl dX3_nearestRing_10 ?_
      refine lv_icmp_ge (tgt := 76) hx hb dX3_nearestRing_13 (by decide) (fun c1 => ?_) (fun c1 => ?_)
      · have hf := if_t c1 hf
        refine lv_iload_n hx hb dX3_nearestRing_76 rfl (lv_at hl 2 rfl) ?_
        obtain ⟨e0_, e1_⟩ := sm2 hf
        exact hret _ _ _ _ _ (by rw [← e1_]; exact hw) e0_ (Or.inl rfl) dX3_nearestRing_77
      · have hf := if_f c1 hf
        refine lv_aload_n hx hb dX3_nearestRing_16 rfl (lv_at hl 0 rfl) ?_
        refine w_get hx hb hts hi3 hown hK hw 0 rfl rfl 2 (by decide) q1 rfl (v := .ref (o 12)) rfl dX3_nearestRing_17 ?_
        refine lv_aload_n hx hb dX3_nearestRing_20 rfl (lv_at hl 0 rfl) ?_
        refine w_get hx hb hts hi3 hown hK hw 0 rfl rfl 5 (by decide) q2 rfl (v := .ref (o 18)) rfl dX3_nearestRing_21 ?_
        refine lv_iload hx hb dX3_nearestRing_24 (lv_at hl 4 rfl) ?_
        obtain ⟨x2, g3, hf⟩ := bn1_e hf
        refine w_ald hx hb hK hw 1 rfl g3 dX3_nearestRing_26 ?_
        obtain ⟨oG4, g5, hf⟩ := bn1_e hf
        have fr := fr_X3_X4_oG_oB o cA oR oT oB oC oG oG4 oB
        refine go_v (run_v (As := [.int x2]) (rest := []) ⟨hx, hb, hml, hown, hts⟩ (k_X4_from l D cA tx ty o oG oB x2 oG4 g5 H.size) (cwV 1 hts gX3_nearestRing_X4_from rfl rfl rfl hd_X4_from ⟨Nat.le_of_ble_eq_true rfl, Nat.le_of_ble_eq_true rfl⟩) fr hw hK hA hZo hZ (ci := 4) rfl rfl rfl rfl hl.1 rfl (Nat.le_of_ble_eq_true rfl) dX3_nearestRing_27 ⟨Nat.zero_le _, Nat.zero_le _⟩) fr hw hA (fun H locs hw => ?_)
        refine lv_aload_n hx hb dX3_nearestRing_30 rfl (lv_at hl 0 rfl) ?_
        refine w_get hx hb hts hi3 hown hK hw 0 rfl rfl 2 (by decide) q1 rfl (v := .ref (o 12)) rfl dX3_nearestRing_31 ?_
        refine lv_iload_n hx hb dX3_nearestRing_34 rfl (lv_at hl 1 rfl) ?_
        obtain ⟨x6, g7, hf⟩ := bn1_e hf
        have fr := fr_X3_X4_oG_oB o cA oR oT oB oC oG4 oG4 oB
        refine go_i (run_v (As := [.int v1]) (rest := []) ⟨hx, hb, hml, hown, hts⟩ (k_X4_isSupportedBy l D cA tx ty o oG4 oB v1 x6 g7 H.size) (cwV 1 hts gX3_nearestRing_X4_isSupportedBy rfl rfl rfl hd_X4_isSupportedBy ⟨Nat.le_of_ble_eq_true rfl, Nat.le_of_ble_eq_true rfl⟩) fr hw hK hA hZo hZ (ci := 4) rfl rfl rfl rfl hl.1 rfl (Nat.le_of_ble_eq_true rfl) dX3_nearestRing_35 ⟨Nat.zero_le _, Nat.zero_le _⟩) fr hw hA (fun H locs hw => ?_)
        refine lv_if_eq (tgt := 70) hx hb dX3_nearestRing_38 (by decide) (fun c8 => ?_) (fun c8 => ?_)
        · have hf := if_t c8 hf
          refine lv_iinc (v := v4 + 1) (lv' := [(4, .int (v4 + 1)), (0, .ref (o 17)), (1, .int v1), (2, .int v2), (3, .int v3)]) hx hb dX3_nearestRing_70 hl (k := 4) rfl (by rfl) (by decide) rfl (fun ls hl => ?_)
          refine lv_goto (tgt := 7) hx hb dX3_nearestRing_73 (by decide) ?_
          exact ih v2 v3 (v4 + 1) oG4 hf H locs ls hw (lv_sub hl [1, 2, 3, 4, 0] rfl)
        · have hf := if_f c8 hf
          refine lv_iload_n hx hb dX3_nearestRing_41 rfl (lv_at hl 2 rfl) ?_
          refine lv_iconst (v := (-1)) hx hb dX3_nearestRing_42 (by decide) ?_
          refine lv_icmp_eq (tgt := 58) hx hb dX3_nearestRing_43 (by decide) (fun c9 => ?_) (fun c9 => ?_)
          · have hf := if_t c9 hf
            refine lv_iload hx hb dX3_nearestRing_58 (lv_at hl 4 rfl) ?_
            refine lv_istore_n (lv' := [(2, .int v4), (0, .ref (o 17)), (1, .int v1), (3, .int v3), (4, .int v4)]) hx hb dX3_nearestRing_60 rfl hl (by decide) rfl (fun ls hl => ?_)
            refine lv_aload_n hx hb dX3_nearestRing_61 rfl (lv_at hl 1 rfl) ?_
            refine w_get hx hb hts hi3 hown hK hw 0 rfl rfl 2 (by decide) q1 rfl (v := .ref (o 12)) rfl dX3_nearestRing_62 ?_
            refine lv_iload_n hx hb dX3_nearestRing_65 rfl (lv_at hl 2 rfl) ?_
            obtain ⟨x10, g11, hf⟩ := bn1_e hf
            have fr := fr_X3_X4_oG_oB o cA oR oT oB oC oG4 oG4 oB
            refine go_i (run_v (As := [.int v1]) (rest := []) ⟨hx, hb, hml, hown, hts⟩ (k_X4_farness l D cA tx ty o oG4 oB v1 x10 g11 H.size) (cwV 1 hts gX3_nearestRing_X4_farness rfl rfl rfl hd_X4_farness ⟨Nat.le_of_ble_eq_true rfl, Nat.le_of_ble_eq_true rfl⟩) fr hw hK hA hZo hZ (ci := 4) rfl rfl rfl rfl hl.1 rfl (Nat.le_of_ble_eq_true rfl) dX3_nearestRing_66 ⟨Nat.zero_le _, Nat.zero_le _⟩) fr hw hA (fun H locs hw => ?_)
            refine lv_istore_n (lv' := [(3, .int x10), (2, .int v4), (0, .ref (o 17)), (1, .int v1), (4, .int v4)]) hx hb dX3_nearestRing_69 rfl hl (by decide) rfl (fun ls hl => ?_)
            refine lv_iinc (v := v4 + 1) (lv' := [(4, .int (v4 + 1)), (3, .int x10), (2, .int v4), (0, .ref (o 17)), (1, .int v1)]) hx hb dX3_nearestRing_70 hl (k := 4) rfl (by rfl) (by decide) rfl (fun ls hl => ?_)
            refine lv_goto (tgt := 7) hx hb dX3_nearestRing_73 (by decide) ?_
            exact ih v4 x10 (v4 + 1) oG4 hf H locs ls hw (lv_sub hl [3, 4, 2, 1, 0] rfl)
          · have hf := if_f c9 hf
            refine lv_aload_n hx hb dX3_nearestRing_46 rfl (lv_at hl 0 rfl) ?_
            refine w_get hx hb hts hi3 hown hK hw 0 rfl rfl 2 (by decide) q1 rfl (v := .ref (o 12)) rfl dX3_nearestRing_47 ?_
            refine lv_iload_n hx hb dX3_nearestRing_50 rfl (lv_at hl 1 rfl) ?_
            obtain ⟨x12, g13, hf⟩ := bn1_e hf
            have fr := fr_X3_X4_oG_oB o cA oR oT oB oC oG4 oG4 oB
            refine go_i (run_v (As := [.int v1]) (rest := []) ⟨hx, hb, hml, hown, hts⟩ (k_X4_farness l D cA tx ty o oG4 oB v1 x12 g13 H.size) (cwV 1 hts gX3_nearestRing_X4_farness rfl rfl rfl hd_X4_farness ⟨Nat.le_of_ble_eq_true rfl, Nat.le_of_ble_eq_true rfl⟩) fr hw hK hA hZo hZ (ci := 4) rfl rfl rfl rfl hl.1 rfl (Nat.le_of_ble_eq_true rfl) dX3_nearestRing_51 ⟨Nat.zero_le _, Nat.zero_le _⟩) fr hw hA (fun H locs hw => ?_)
            refine lv_iload_n hx hb dX3_nearestRing_54 rfl (lv_at hl 3 rfl) ?_
            refine lv_icmp_ge (tgt := 70) hx hb dX3_nearestRing_55 (by decide) (fun c14 => ?_) (fun c14 => ?_)
            · have hf := if_t c14 hf
              refine lv_iinc (v := v4 + 1) (lv' := [(4, .int (v4 + 1)), (0, .ref (o 17)), (1, .int v1), (2, .int v2), (3, .int v3)]) hx hb dX3_nearestRing_70 hl (k := 4) rfl (by rfl) (by decide) rfl (fun ls hl => ?_)
              refine lv_goto (tgt := 7) hx hb dX3_nearestRing_73 (by decide) ?_
              exact ih v2 v3 (v4 + 1) oG4 hf H locs ls hw (lv_sub hl [1, 2, 3, 4, 0] rfl)
            · have hf := if_f c14 hf
              refine lv_iload hx hb dX3_nearestRing_58 (lv_at hl 4 rfl) ?_
              refine lv_istore_n (lv' := [(2, .int v4), (0, .ref (o 17)), (1, .int v1), (3, .int v3), (4, .int v4)]) hx hb dX3_nearestRing_60 rfl hl (by decide) rfl (fun ls hl => ?_)
              refine lv_aload_n hx hb dX3_nearestRing_61 rfl (lv_at hl 1 rfl) ?_
              refine w_get hx hb hts hi3 hown hK hw 0 rfl rfl 2 (by decide) q1 rfl (v := .ref (o 12)) rfl dX3_nearestRing_62 ?_
              refine lv_iload_n hx hb dX3_nearestRing_65 rfl (lv_at hl 2 rfl) ?_
              obtain ⟨x15, g16, hf⟩ := bn1_e hf
              have fr := fr_X3_X4_oG_oB o cA oR oT oB oC oG4 oG4 oB
              refine go_i (run_v (As := [.int v1]) (rest := []) ⟨hx, hb, hml, hown, hts⟩ (k_X4_farness l D cA tx ty o oG4 oB v1 x15 g16 H.size) (cwV 1 hts gX3_nearestRing_X4_farness rfl rfl rfl hd_X4_farness ⟨Nat.le_of_ble_eq_true rfl, Nat.le_of_ble_eq_true rfl⟩) fr hw hK hA hZo hZ (ci := 4) rfl rfl rfl rfl hl.1 rfl (Nat.le_of_ble_eq_true rfl) dX3_nearestRing_66 ⟨Nat.zero_le _, Nat.zero_le _⟩) fr hw hA (fun H locs hw => ?_)
              refine lv_istore_n (lv' := [(3, .int x15), (2, .int v4), (0, .ref (o 17)), (1, .int v1), (4, .int v4)]) hx hb dX3_nearestRing_69 rfl hl (by decide) rfl (fun ls hl => ?_)
              refine lv_iinc (v := v4 + 1) (lv' := [(4, .int (v4 + 1)), (3, .int x15), (2, .int v4), (0, .ref (o 17)), (1, .int v1)]) hx hb dX3_nearestRing_70 hl (k := 4) rfl (by rfl) (by decide) rfl (fun ls hl => ?_)
              refine lv_goto (tgt := 7) hx hb dX3_nearestRing_73 (by decide) ?_
              exact ih v4 x15 (v4 + 1) oG4 hf H locs ls hw (lv_sub hl [3, 4, 2, 1, 0] rfl)
  unfold f_X3_nearestRing at hf
  obtain ⟨H, hH⟩ : ∃ H, H = s.heap := ⟨_, rfl⟩
  obtain ⟨locs, hlc⟩ : ∃ locs : List Loc, locs = [] := ⟨_, rfl⟩
  have hw : Wd D A s.heap H locs (wX3 o cA oR oT oB oC oG) := by rw [hH, hlc]; exact hw
  have goal : W p l e rmX3_nearestRing s m ([.ref (o 17), .int a1] : List Value).toArray below meth c H locs 0 0 Q (F0 m 0 ls []) := by
    clear hH hlc
    refine lv_iconst (v := (-1)) hx hb dX3_nearestRing_0 (by decide) ?_
    refine lv_istore_n (lv' := [(2, .int ((-1))), (0, .ref (o 17)), (1, .int a1)]) hx hb dX3_nearestRing_1 rfl hl (by decide) rfl (fun ls hl => ?_)
    refine lv_iconst (v := 0) hx hb dX3_nearestRing_2 (by decide) ?_
    refine lv_istore_n (lv' := [(3, .int 0), (2, .int ((-1))), (0, .ref (o 17)), (1, .int a1)]) hx hb dX3_nearestRing_3 rfl hl (by decide) rfl (fun ls hl => ?_)
    refine lv_iconst (v := 0) hx hb dX3_nearestRing_4 (by decide) ?_
    refine lv_istore (lv' := [(4, .int 0), (3, .int 0), (2, .int ((-1))), (0, .ref (o 17)), (1, .int a1)]) hx hb dX3_nearestRing_5 hl (by decide) rfl (fun ls hl => ?_)
    exact h_L7 a1 _ ((-1)) 0 0 oG hf H locs ls hw (lv_sub hl [3, 4, 2, 1, 0] rfl)
  rw [hH, hlc] at goal
  exact goal
abbrev rmX3_has : Room := { frames := 0, cells := 0, slots := 0, locals := 0 }
theorem hd_X3_has : yX3_has.cls = RX3 ∧ yX3_has.cls ≠ "java/lang/invoke/MethodHandle" ∧ yX3_has.cls ≠ "java/lang/invoke/VarHandle" ∧ (parseMethodDescriptor yX3_has.desc).map (fun d => d.parameters.length) = some 1 := by decide +kernel
set_option maxHeartbeats 4000000 in
set_option maxRecDepth 100000 in
theorem k_X3_has (l : Launch) (D : va_G) (cA : ClassId) (tx ty : Nat) (o : Nat → Nat) (oR : St) (oT : St) (oB : St) (oC : St) (oG : St) (a1 : Int32) (r : Int32) (hf : f_X3_has oR a1 = some (r)) : Mi l yX3_has wsX3_has rmX3_has D cA (z_X tx ty) [.ref (o 17), .int a1] (wX3 o cA oR oT oB oC oG) r (wX3 o cA oR oT oB oC oG) := by
  refine Mi.of (cc := cX3_has) (maxL := 2) (ret := (some .boolean)) (plainFor_of_name (by decide)) rfl (Nat.le_of_ble_eq_true rfl) (Or.inr rfl) ?_
  intro p e s m below meth c A Q hx hb hml hown hts hK hA hZ hret ls hl hw
  replace hown : s.vm.findClass RX3 = some m.cls := hown
  have hl : lv_has ls 2 [(0, .ref (o 17)), (1, .int a1)] := hl
  have hZo := z_X_ok tx ty
  have hi3 : ∀ w ∈ wsX30, w ∈ wsX3_has := fun w h => List.mem_cons_of_mem _ (List.mem_append_right _ h)
  have q0 := hts (.fieldLink RX3 34 "ArcRings$Rings" "size" "I") (by decide +kernel)
  unfold f_X3_has at hf
  obtain ⟨H, hH⟩ : ∃ H, H = s.heap := ⟨_, rfl⟩
  obtain ⟨locs, hlc⟩ : ∃ locs : List Loc, locs = [] := ⟨_, rfl⟩
  have hw : Wd D A s.heap H locs (wX3 o cA oR oT oB oC oG) := by rw [hH, hlc]; exact hw
  have goal : W p l e rmX3_has s m ([.ref (o 17), .int a1] : List Value).toArray below meth c H locs 0 0 Q (F0 m 0 ls []) := by
    clear hH hlc
    refine lv_iload_n hx hb dX3_has_0 rfl (lv_at hl 1 rfl) ?_
    refine lv_if_lt (tgt := 16) hx hb dX3_has_1 (by decide) (fun c1 => ?_) (fun c1 => ?_)
    · have hf := if_t c1 hf
      refine lv_iconst (v := 0) hx hb dX3_has_16 (by decide) ?_
      have e0_ := sm1 hf
      exact hret _ _ _ _ _ hw e0_ (Or.inr (Or.inl rfl)) dX3_has_17
    · have hf := if_f c1 hf
      refine lv_iload_n hx hb dX3_has_4 rfl (lv_at hl 1 rfl) ?_
      refine lv_aload_n hx hb dX3_has_5 rfl (lv_at hl 0 rfl) ?_
      refine w_get hx hb hts hi3 hown hK hw 0 rfl rfl 4 (by decide) q0 rfl (v := .int (oR.1 4)) rfl dX3_has_6 ?_
      refine lv_icmp_ge (tgt := 16) hx hb dX3_has_9 (by decide) (fun c2 => ?_) (fun c2 => ?_)
      · have hf := if_t c2 hf
        refine lv_iconst (v := 0) hx hb dX3_has_16 (by decide) ?_
        have e0_ := sm1 hf
        exact hret _ _ _ _ _ hw e0_ (Or.inr (Or.inl rfl)) dX3_has_17
      · have hf := if_f c2 hf
        refine lv_iconst (v := 1) hx hb dX3_has_12 (by decide) ?_
        refine lv_goto (tgt := 17) hx hb dX3_has_13 (by decide) ?_
        have e0_ := sm1 hf
        exact hret _ _ _ _ _ hw e0_ (Or.inr (Or.inr rfl)) dX3_has_17
  rw [hH, hlc] at goal
  exact goal
abbrev rmX3_tellOff : Room := { frames := 3, cells := 0, slots := 0, locals := 77 }
theorem hd_X3_tellOff : yX3_tellOff.cls = RX3 ∧ yX3_tellOff.cls ≠ "java/lang/invoke/MethodHandle" ∧ yX3_tellOff.cls ≠ "java/lang/invoke/VarHandle" ∧ (parseMethodDescriptor yX3_tellOff.desc).map (fun d => d.parameters.length) = some 0 := by decide +kernel
set_option maxHeartbeats 4000000 in
set_option maxRecDepth 100000 in
theorem k_X3_tellOff (l : Launch) (D : va_G) (cA : ClassId) (tx ty : Nat) (o : Nat → Nat) (oR : St) (oT : St) (oB : St) (oC : St) (oG : St) (oR' : St) (oG' : St) (hf : f_X3_tellOff oR oB oG = some (oR', oG')) : Mv l yX3_tellOff wsX3_tellOff rmX3_tellOff D cA (z_X tx ty) [.ref (o 17)] (wX3 o cA oR oT oB oC oG) (wX3 o cA oR' oT oB oC oG') := by
  refine Mv.of (cc := cX3_tellOff) (maxL := 3) (by decide) rfl (Nat.le_of_ble_eq_true rfl) ?_
  intro p e s m below meth c A Q hx hb hml hown hts hK hA hZ hret ls hl hw
  replace hown : s.vm.findClass RX3 = some m.cls := hown
  have hl : lv_has ls 3 [(0, .ref (o 17))] := hl
  have hZo := z_X_ok tx ty
  have hi0 : ∀ w ∈ wsX00, w ∈ wsX3_tellOff := fun w h => List.mem_cons_of_mem _ (List.mem_append_left _ (List.mem_append_right _ h))
  have hi3 : ∀ w ∈ wsX30, w ∈ wsX3_tellOff := fun w h => List.mem_cons_of_mem _ (List.mem_append_left _ (List.mem_append_left _ (List.mem_append_right _ h)))
  have q0 := hts (.fieldLink RX3 34 "ArcRings$Rings" "size" "I") (by decide +kernel)
  have q1 := hts (.fieldLink RX3 15 "ArcRings$Rings" "own" "[I") (by decide +kernel)
  have q2 := hts (.fieldLink RX3 18 "ArcRings$Rings" "board" "LArcRings$Board;") (by decide +kernel)
  have q3 := hts (.fieldLink RX3 38 "ArcRings$Board" "dots" "I") (by decide +kernel)
  have h_L2 : ∀ (oG : St) (K : St → Option (St × St)), (∀ (z0 : St), K z0 = some (oR', oG') → ∀ (H : Heap) (locs : List Loc) (ls : Array Slot), Wd D A s.heap H locs (wX3 o cA z0 oT oB oC oG) → lv_has ls 3 [(0, .ref (o 17))] → W p l e rmX3_tellOff s m ([.ref (o 17)] : List Value).toArray below meth c H locs 0 0 Q (F0 m 23 ls [])) → ∀ (n : Nat) (v1 : Int32) (oR : St), f_X3_tellOff_L2 K n v1 oR = some (oR', oG') → ∀ (H : Heap) (locs : List Loc) (ls : Array Slot), Wd D A s.heap H locs (wX3 o cA oR oT oB oC oG) → lv_has ls 3 [(0, .ref (o 17)), (1, .int v1)] → W p l e rmX3_tellOff s m ([.ref (o 17)] : List Value).toArray below meth c H locs 0 0 Q (F0 m 2 ls []) := by
    intro oG K hK9 n
    induction n with
    | zero =>
      intro v1 oR hf
      have hf : none = some (oR', oG') := hf
      cases hf
    | succ n ih =>
      intro v1 oR hf H locs ls hw hl
      have hf := (f_X3_tellOff_L2_s K n v1 oR).symm.trans hf
      refine lv_iload_n hx hb dX3_tellOff_2 rfl (lv_at hl 1 rfl) ?_
      refine lv_aload_n hx hb dX3_tellOff_3 rfl (lv_at hl 0 rfl) ?_
      refine w_get hx hb hts hi3 hown hK hw 0 rfl rfl 4 (by decide) q0 rfl (v := .int (oR.1 4)) rfl dX3_tellOff_4 ?_
      refine lv_icmp_ge (tgt := 23) hx hb dX3_tellOff_7 (by decide) (fun c1 => ?_) (fun c1 => ?_)
      · have hf := if_t c1 hf
        exact hK9 oR hf H locs ls hw (lv_sub hl [0] rfl)
      · have hf := if_f c1 hf
        refine lv_aload_n hx hb dX3_tellOff_10 rfl (lv_at hl 0 rfl) ?_
        refine w_get hx hb hts hi3 hown hK hw 0 rfl rfl 6 (by decide) q1 rfl (v := .ref (o 19)) rfl dX3_tellOff_11 ?_
        refine lv_iload_n hx hb dX3_tellOff_14 rfl (lv_at hl 1 rfl) ?_
        refine lv_iconst (v := 0) hx hb dX3_tellOff_15 (by decide) ?_
        obtain ⟨oR3, g2, hf⟩ := bn1_e hf
        refine w_aws hx hb hK hw 2 rfl g2 (fun z => (wX3 o cA z oT oB oC oG)) (fun _ => rfl) dX3_tellOff_16 (fun H locs hw => ?_)
        refine lv_iinc (v := v1 + 1) (lv' := [(1, .int (v1 + 1)), (0, .ref (o 17))]) hx hb dX3_tellOff_17 hl (k := 1) rfl (by rfl) (by decide) rfl (fun ls hl => ?_)
        refine lv_goto (tgt := 2) hx hb dX3_tellOff_20 (by decide) ?_
        exact ih (v1 + 1) oR3 hf H locs ls hw (lv_sub hl [1, 0] rfl)
  have h_L25 : ∀ (n : Nat) (v1 : Int32) (oR : St) (oG : St), f_X3_tellOff_L25 oB n v1 oR oG = some (oR', oG') → ∀ (H : Heap) (locs : List Loc) (ls : Array Slot), Wd D A s.heap H locs (wX3 o cA oR oT oB oC oG) → lv_has ls 3 [(0, .ref (o 17)), (1, .int v1)] → W p l e rmX3_tellOff s m ([.ref (o 17)] : List Value).toArray below meth c H locs 0 0 Q (F0 m 25 ls []) := by
    intro n
    induction n with
    | zero =>
      intro v1 oR oG hf
      have hf : none = some (oR', oG') := hf
      cases hf
    | succ n ih =>
      intro v1 oR oG hf H locs ls hw hl
      have hf := (f_X3_tellOff_L25_s oB n v1 oR oG).symm.trans hf
      refine lv_iload_n hx hb dX3_tellOff_25 rfl (lv_at hl 1 rfl) ?_
      refine lv_aload_n hx hb dX3_tellOff_26 rfl (lv_at hl 0 rfl) ?_
      refine w_get hx hb hts hi3 hown hK hw 0 rfl rfl 0 (by decide) q2 rfl (v := .ref (o 7)) rfl dX3_tellOff_27 ?_
      refine w_get hx hb hts hi0 hown hK hw 7 rfl rfl 2 (by decide) q3 rfl (v := .int (oB.1 2)) rfl dX3_tellOff_30 ?_
      refine lv_icmp_ge (tgt := 68) hx hb dX3_tellOff_33 (by decide) (fun c5 => ?_) (fun c5 => ?_)
      · have hf := if_t c5 hf
        obtain ⟨e0_, e1_⟩ := sm2 hf
        exact hret _ _ _ _ (by rw [← e0_, ← e1_]; exact hw) dX3_tellOff_68
      · have hf := if_f c5 hf
        refine lv_aload_n hx hb dX3_tellOff_36 rfl (lv_at hl 0 rfl) ?_
        refine lv_iload_n hx hb dX3_tellOff_37 rfl (lv_at hl 1 rfl) ?_
        obtain ⟨x6, oG7, g8, hf⟩ := bn2_e hf
        have fr := fr_X3_X3_oR_oT_oB_oC_oG o cA oR oT oB oC oG oR oT oB oC oG7
        refine go_i (run_v (As := [.int v1]) (rest := []) ⟨hx, hb, hml, hown, hts⟩ (k_X3_nearestRing l D cA tx ty o oR oT oB oC oG v1 x6 oG7 g8 H.size) (cwV 1 hts gX3_tellOff_X3_nearestRing rfl rfl rfl hd_X3_nearestRing ⟨Nat.le_of_ble_eq_true rfl, Nat.le_of_ble_eq_true rfl⟩) fr hw hK hA hZo hZ (ci := 3) rfl rfl rfl rfl hl.1 rfl (Nat.le_of_ble_eq_true rfl) dX3_tellOff_38 ⟨Nat.zero_le _, Nat.zero_le _⟩) fr hw hA (fun H locs hw => ?_)
        refine lv_istore_n (lv' := [(2, .int x6), (0, .ref (o 17)), (1, .int v1)]) hx hb dX3_tellOff_41 rfl hl (by decide) rfl (fun ls hl => ?_)
        refine lv_aload_n hx hb dX3_tellOff_42 rfl (lv_at hl 1 rfl) ?_
        refine lv_iload_n hx hb dX3_tellOff_43 rfl (lv_at hl 0 rfl) ?_
        obtain ⟨x9, g10, hf⟩ := bn1_e hf
        have fr := fr_X3_X3_oR_oT_oB_oC_oG o cA oR oT oB oC oG7 oR oT oB oC oG7
        refine go_i (run_v (As := [.int x6]) (rest := []) ⟨hx, hb, hml, hown, hts⟩ (k_X3_has l D cA tx ty o oR oT oB oC oG7 x6 x9 g10 H.size) (cwV 1 hts gX3_tellOff_X3_has rfl rfl rfl hd_X3_has ⟨Nat.le_of_ble_eq_true rfl, Nat.le_of_ble_eq_true rfl⟩) fr hw hK hA hZo hZ (ci := 3) rfl rfl rfl rfl hl.1 rfl (Nat.le_of_ble_eq_true rfl) dX3_tellOff_44 ⟨Nat.zero_le _, Nat.zero_le _⟩) fr hw hA (fun H locs hw => ?_)
        refine lv_if_eq (tgt := 62) hx hb dX3_tellOff_47 (by decide) (fun c11 => ?_) (fun c11 => ?_)
        · have hf := if_t c11 hf
          refine lv_iinc (v := v1 + 1) (lv' := [(1, .int (v1 + 1)), (2, .int x6), (0, .ref (o 17))]) hx hb dX3_tellOff_62 hl (k := 2) rfl (by rfl) (by decide) rfl (fun ls hl => ?_)
          refine lv_goto (tgt := 25) hx hb dX3_tellOff_65 (by decide) ?_
          exact ih (v1 + 1) oR oG7 hf H locs ls hw (lv_sub hl [2, 0] rfl)
        · have hf := if_f c11 hf
          refine lv_aload_n hx hb dX3_tellOff_50 rfl (lv_at hl 1 rfl) ?_
          refine w_get hx hb hts hi3 hown hK hw 0 rfl rfl 6 (by decide) q1 rfl (v := .ref (o 19)) rfl dX3_tellOff_51 ?_
          refine lv_iload_n hx hb dX3_tellOff_54 rfl (lv_at hl 0 rfl) ?_
          refine lv_dup2_11 hx hb dX3_tellOff_55 rfl rfl ?_
          obtain ⟨x12, g13, hf⟩ := bn1_e hf
          refine w_ald hx hb hK hw 2 rfl g13 dX3_tellOff_56 ?_
          refine lv_iconst (v := 1) hx hb dX3_tellOff_57 (by decide) ?_
          refine lv_iload_n hx hb dX3_tellOff_58 rfl (lv_at hl 2 rfl) ?_
          refine lv_ishl hx hb dX3_tellOff_59 ?_
          refine lv_ior hx hb dX3_tellOff_60 ?_
          obtain ⟨oR15, g14, hf⟩ := bn1_e hf
          refine w_aws hx hb hK hw 2 rfl g14 (fun z => (wX3 o cA z oT oB oC oG7)) (fun _ => rfl) dX3_tellOff_61 (fun H locs hw => ?_)
          refine lv_iinc (v := v1 + 1) (lv' := [(1, .int (v1 + 1)), (2, .int x6), (0, .ref (o 17))]) hx hb dX3_tellOff_62 hl (k := 2) rfl (by rfl) (by decide) rfl (fun ls hl => ?_)
          refine lv_goto (tgt := 25) hx hb dX3_tellOff_65 (by decide) ?_
          exact ih (v1 + 1) oR15 oG7 hf H locs ls hw (lv_sub hl [2, 0] rfl)
  unfold f_X3_tellOff at hf
  obtain ⟨H, hH⟩ : ∃ H, H = s.heap := ⟨_, rfl⟩
  obtain ⟨locs, hlc⟩ : ∃ locs : List Loc, locs = [] := ⟨_, rfl⟩
  have hw : Wd D A s.heap H locs (wX3 o cA oR oT oB oC oG) := by rw [hH, hlc]; exact hw
  have goal : W p l e rmX3_tellOff s m ([.ref (o 17)] : List Value).toArray below meth c H locs 0 0 Q (F0 m 0 ls []) := by
    clear hH hlc
    refine lv_iconst (v := 0) hx hb dX3_tellOff_0 (by decide) ?_
    refine lv_istore_n (lv' := [(1, .int 0), (0, .ref (o 17))]) hx hb dX3_tellOff_1 rfl hl (by decide) rfl (fun ls hl => ?_)
    refine h_L2 oG _ ?_ _ 0 oR hf H locs ls hw (lv_sub hl [1, 0] rfl)
    intro oR4 hf H locs ls hw hl
    refine lv_iconst (v := 0) hx hb dX3_tellOff_23 (by decide) ?_
    refine lv_istore_n (lv' := [(1, .int 0), (0, .ref (o 17))]) hx hb dX3_tellOff_24 rfl hl (by decide) rfl (fun ls hl => ?_)
    exact h_L25  _ 0 oR4 oG hf H locs ls hw (lv_sub hl [1, 0] rfl)
  rw [hH, hlc] at goal
  exact goal
abbrev rmX3_ownCount : Room := { frames := 1, cells := 0, slots := 0, locals := 20 }
theorem hd_X3_ownCount : yX3_ownCount.cls = RX3 ∧ yX3_ownCount.cls ≠ "java/lang/invoke/MethodHandle" ∧ yX3_ownCount.cls ≠ "java/lang/invoke/VarHandle" ∧ (parseMethodDescriptor yX3_ownCount.desc).map (fun d => d.parameters.length) = some 1 := by decide +kernel
set_option maxHeartbeats 4000000 in
set_option maxRecDepth 100000 in
theorem k_X3_ownCount (l : Launch) (D : va_G) (cA : ClassId) (tx ty : Nat) (o : Nat → Nat) (oR : St) (oT : St) (oB : St) (oC : St) (oG : St) (a1 : Int32) (r : Int32) (hf : f_X3_ownCount oR a1 = some (r)) : Mi l yX3_ownCount wsX3_ownCount rmX3_ownCount D cA (z_X tx ty) [.ref (o 17), .int a1] (wX3 o cA oR oT oB oC oG) r (wX3 o cA oR oT oB oC oG) := by
  refine Mi.of (cc := cX3_ownCount) (maxL := 2) (ret := (some .int)) (plainFor_of_name (by decide)) rfl (Nat.le_of_ble_eq_true rfl) (Or.inl rfl) ?_
  intro p e s m below meth c A Q hx hb hml hown hts hK hA hZ hret ls hl hw
  replace hown : s.vm.findClass RX3 = some m.cls := hown
  have hl : lv_has ls 2 [(0, .ref (o 17)), (1, .int a1)] := hl
  have hZo := z_X_ok tx ty
  have hi3 : ∀ w ∈ wsX30, w ∈ wsX3_ownCount := fun w h => List.mem_cons_of_mem _ (List.mem_append_right _ h)
  have q0 := hts (.fieldLink RX3 15 "ArcRings$Rings" "own" "[I") (by decide +kernel)
  unfold f_X3_ownCount at hf
  obtain ⟨H, hH⟩ : ∃ H, H = s.heap := ⟨_, rfl⟩
  obtain ⟨locs, hlc⟩ : ∃ locs : List Loc, locs = [] := ⟨_, rfl⟩
  have hw : Wd D A s.heap H locs (wX3 o cA oR oT oB oC oG) := by rw [hH, hlc]; exact hw
  have goal : W p l e rmX3_ownCount s m ([.ref (o 17), .int a1] : List Value).toArray below meth c H locs 0 0 Q (F0 m 0 ls []) := by
    clear hH hlc
    refine lv_aload_n hx hb dX3_ownCount_0 rfl (lv_at hl 0 rfl) ?_
    refine w_get hx hb hts hi3 hown hK hw 0 rfl rfl 6 (by decide) q0 rfl (v := .ref (o 19)) rfl dX3_ownCount_1 ?_
    refine lv_iload_n hx hb dX3_ownCount_4 rfl (lv_at hl 1 rfl) ?_
    obtain ⟨x1, g2, hf⟩ := bn1_e hf
    refine w_ald hx hb hK hw 2 rfl g2 dX3_ownCount_5 ?_
    obtain ⟨x3, g4, hf⟩ := bn1_e hf
    have fr := fr_X3_S o cA oR oT oB oC oG
    refine go_i (run_s (As := [.int x1]) (rest := []) ⟨hx, hb, hml, hown, hts⟩ (k_J6_bitCount_0f7a4 l D cA x1 x3 g4 H.size) (va_cwS 1 hts gX3_ownCount_J6_bitCount_0f7a4 rfl rfl rfl hd_J6_bitCount_0f7a4 ⟨Nat.le_of_ble_eq_true rfl, Nat.le_of_ble_eq_true rfl⟩) fr hw hK hA rfl hl.1 rfl (Nat.le_of_ble_eq_true rfl) dX3_ownCount_6 ⟨Nat.zero_le _, Nat.zero_le _⟩) fr hw hA (fun H locs hw => ?_)
    have e0_ := sm1 hf
    exact hret _ _ _ _ _ hw e0_ (Or.inl rfl) dX3_ownCount_9
  rw [hH, hlc] at goal
  exact goal
abbrev rmX3_weakest : Room := { frames := 2, cells := 0, slots := 0, locals := 41 }
theorem hd_X3_weakest : yX3_weakest.cls = RX3 ∧ yX3_weakest.cls ≠ "java/lang/invoke/MethodHandle" ∧ yX3_weakest.cls ≠ "java/lang/invoke/VarHandle" ∧ (parseMethodDescriptor yX3_weakest.desc).map (fun d => d.parameters.length) = some 0 := by decide +kernel
set_option maxHeartbeats 4000000 in
set_option maxRecDepth 100000 in
theorem k_X3_weakest (l : Launch) (D : va_G) (cA : ClassId) (tx ty : Nat) (o : Nat → Nat) (oR : St) (oT : St) (oB : St) (oC : St) (oG : St) (r : Int32) (hf : f_X3_weakest oR oB = some (r)) : Mi l yX3_weakest wsX3_weakest rmX3_weakest D cA (z_X tx ty) [.ref (o 17)] (wX3 o cA oR oT oB oC oG) r (wX3 o cA oR oT oB oC oG) := by
  refine Mi.of (cc := cX3_weakest) (maxL := 4) (ret := (some .int)) (plainFor_of_name (by decide)) rfl (Nat.le_of_ble_eq_true rfl) (Or.inl rfl) ?_
  intro p e s m below meth c A Q hx hb hml hown hts hK hA hZ hret ls hl hw
  replace hown : s.vm.findClass RX3 = some m.cls := hown
  have hl : lv_has ls 4 [(0, .ref (o 17))] := hl
  have hZo := z_X_ok tx ty
  have hi0 : ∀ w ∈ wsX00, w ∈ wsX3_weakest := fun w h => List.mem_cons_of_mem _ (List.mem_append_right _ h)
  have hi3 : ∀ w ∈ wsX30, w ∈ wsX3_weakest := fun w h => List.mem_cons_of_mem _ (List.mem_append_left _ (List.mem_append_right _ h))
  have q0 := hts (.fieldLink RX3 18 "ArcRings$Rings" "board" "LArcRings$Board;") (by decide +kernel)
  have q1 := hts (.fieldLink RX3 65 "ArcRings$Board" "need" "I") (by decide +kernel)
  have q2 := hts (.fieldLink RX3 34 "ArcRings$Rings" "size" "I") (by decide +kernel)
  have h_L14 : ∀ (n : Nat) (v1 : Int32) (v2 : Int32) (v3 : Int32), f_X3_weakest_L14 oR n v1 v2 v3 = some (r) → ∀ (H : Heap) (locs : List Loc) (ls : Array Slot), Wd D A s.heap H locs (wX3 o cA oR oT oB oC oG) → lv_has ls 4 [(0, .ref (o 17)), (1, .int v1), (2, .int v2), (3, .int v3)] → W p l e rmX3_weakest s m ([.ref (o 17)] : List Value).toArray below meth c H locs 0 0 Q (F0 m 14 ls []) := by
    intro n
    induction n with
    | zero =>
      intro v1 v2 v3 hf
      have hf : none = some (r) := hf
      cases hf
    | succ n ih =>
      intro v1 v2 v3 hf H locs ls hw hl
      have hf := (f_X3_weakest_L14_s oR n v1 v2 v3).symm.trans hf
      refine lv_iload_n hx hb dX3_weakest_14 rfl (lv_at hl 3 rfl) ?_
      refine lv_aload_n hx hb dX3_weakest_15 rfl (lv_at hl 0 rfl) ?_
      refine w_get hx hb hts hi3 hown hK hw 0 rfl rfl 4 (by decide) q2 rfl (v := .int (oR.1 4)) rfl dX3_weakest_16 ?_
      refine lv_icmp_ge (tgt := 45) hx hb dX3_weakest_19 (by decide) (fun c1 => ?_) (fun c1 => ?_)
      · have hf := if_t c1 hf
        refine lv_iload_n hx hb dX3_weakest_45 rfl (lv_at hl 1 rfl) ?_
        have e0_ := sm1 hf
        exact hret _ _ _ _ _ hw e0_ (Or.inl rfl) dX3_weakest_46
      · have hf := if_f c1 hf
        refine lv_aload_n hx hb dX3_weakest_22 rfl (lv_at hl 0 rfl) ?_
        refine lv_iload_n hx hb dX3_weakest_23 rfl (lv_at hl 3 rfl) ?_
        obtain ⟨x2, g3, hf⟩ := bn1_e hf
        have fr := fr_X3_X3_oR_oT_oB_oC_oG o cA oR oT oB oC oG oR oT oB oC oG
        refine go_i (run_v (As := [.int v3]) (rest := []) ⟨hx, hb, hml, hown, hts⟩ (k_X3_ownCount l D cA tx ty o oR oT oB oC oG v3 x2 g3 H.size) (cwV 1 hts gX3_weakest_X3_ownCount rfl rfl rfl hd_X3_ownCount ⟨Nat.le_of_ble_eq_true rfl, Nat.le_of_ble_eq_true rfl⟩) fr hw hK hA hZo hZ (ci := 3) rfl rfl rfl rfl hl.1 rfl (Nat.le_of_ble_eq_true rfl) dX3_weakest_24 ⟨Nat.zero_le _, Nat.zero_le _⟩) fr hw hA (fun H locs hw => ?_)
        refine lv_iload_n hx hb dX3_weakest_27 rfl (lv_at hl 2 rfl) ?_
        refine lv_icmp_gt (tgt := 39) hx hb dX3_weakest_28 (by decide) (fun c4 => ?_) (fun c4 => ?_)
        · have hf := if_t c4 hf
          refine lv_iinc (v := v3 + 1) (lv' := [(3, .int (v3 + 1)), (0, .ref (o 17)), (1, .int v1), (2, .int v2)]) hx hb dX3_weakest_39 hl (k := 3) rfl (by rfl) (by decide) rfl (fun ls hl => ?_)
          refine lv_goto (tgt := 14) hx hb dX3_weakest_42 (by decide) ?_
          exact ih v1 v2 (v3 + 1) hf H locs ls hw (lv_sub hl [1, 2, 3, 0] rfl)
        · have hf := if_f c4 hf
          refine lv_iload_n hx hb dX3_weakest_31 rfl (lv_at hl 3 rfl) ?_
          refine lv_istore_n (lv' := [(1, .int v3), (0, .ref (o 17)), (2, .int v2), (3, .int v3)]) hx hb dX3_weakest_32 rfl hl (by decide) rfl (fun ls hl => ?_)
          refine lv_aload_n hx hb dX3_weakest_33 rfl (lv_at hl 1 rfl) ?_
          refine lv_iload_n hx hb dX3_weakest_34 rfl (lv_at hl 3 rfl) ?_
          obtain ⟨x5, g6, hf⟩ := bn1_e hf
          have fr := fr_X3_X3_oR_oT_oB_oC_oG o cA oR oT oB oC oG oR oT oB oC oG
          refine go_i (run_v (As := [.int v3]) (rest := []) ⟨hx, hb, hml, hown, hts⟩ (k_X3_ownCount l D cA tx ty o oR oT oB oC oG v3 x5 g6 H.size) (cwV 1 hts gX3_weakest_X3_ownCount rfl rfl rfl hd_X3_ownCount ⟨Nat.le_of_ble_eq_true rfl, Nat.le_of_ble_eq_true rfl⟩) fr hw hK hA hZo hZ (ci := 3) rfl rfl rfl rfl hl.1 rfl (Nat.le_of_ble_eq_true rfl) dX3_weakest_35 ⟨Nat.zero_le _, Nat.zero_le _⟩) fr hw hA (fun H locs hw => ?_)
          refine lv_istore_n (lv' := [(2, .int x5), (1, .int v3), (0, .ref (o 17)), (3, .int v3)]) hx hb dX3_weakest_38 rfl hl (by decide) rfl (fun ls hl => ?_)
          refine lv_iinc (v := v3 + 1) (lv' := [(3, .int (v3 + 1)), (2, .int x5), (1, .int v3), (0, .ref (o 17))]) hx hb dX3_weakest_39 hl (k := 3) rfl (by rfl) (by decide) rfl (fun ls hl => ?_)
          refine lv_goto (tgt := 14) hx hb dX3_weakest_42 (by decide) ?_
          exact ih v3 x5 (v3 + 1) hf H locs ls hw (lv_sub hl [3, 2, 1, 0] rfl)
  unfold f_X3_weakest at hf
  obtain ⟨H, hH⟩ : ∃ H, H = s.heap := ⟨_, rfl⟩
  obtain ⟨locs, hlc⟩ : ∃ locs : List Loc, locs = [] := ⟨_, rfl⟩
  have hw : Wd D A s.heap H locs (wX3 o cA oR oT oB oC oG) := by rw [hH, hlc]; exact hw
  have goal : W p l e rmX3_weakest s m ([.ref (o 17)] : List Value).toArray below meth c H locs 0 0 Q (F0 m 0 ls []) := by
    clear hH hlc
    refine lv_iconst (v := (-1)) hx hb dX3_weakest_0 (by decide) ?_
    refine lv_istore_n (lv' := [(1, .int ((-1))), (0, .ref (o 17))]) hx hb dX3_weakest_1 rfl hl (by decide) rfl (fun ls hl => ?_)
    refine lv_aload_n hx hb dX3_weakest_2 rfl (lv_at hl 1 rfl) ?_
    refine w_get hx hb hts hi3 hown hK hw 0 rfl rfl 0 (by decide) q0 rfl (v := .ref (o 7)) rfl dX3_weakest_3 ?_
    refine w_get hx hb hts hi0 hown hK hw 7 rfl rfl 6 (by decide) q1 rfl (v := .int (oB.1 6)) rfl dX3_weakest_6 ?_
    refine lv_iconst (v := 1) hx hb dX3_weakest_9 (by decide) ?_
    refine lv_isub hx hb dX3_weakest_10 ?_
    refine lv_istore_n (lv' := [(2, .int ((oB.1 6) - 1)), (1, .int ((-1))), (0, .ref (o 17))]) hx hb dX3_weakest_11 rfl hl (by decide) rfl (fun ls hl => ?_)
    refine lv_iconst (v := 0) hx hb dX3_weakest_12 (by decide) ?_
    refine lv_istore_n (lv' := [(3, .int 0), (2, .int ((oB.1 6) - 1)), (1, .int ((-1))), (0, .ref (o 17))]) hx hb dX3_weakest_13 rfl hl (by decide) rfl (fun ls hl => ?_)
    exact h_L14  _ ((-1)) ((oB.1 6) - 1) 0 hf H locs ls hw (lv_sub hl [3, 2, 1, 0] rfl)
  rw [hH, hlc] at goal
  exact goal
abbrev rmX3_giveUp : Room := { frames := 1, cells := 0, slots := 0, locals := 21 }
theorem hd_X3_giveUp : yX3_giveUp.cls = RX3 ∧ yX3_giveUp.cls ≠ "java/lang/invoke/MethodHandle" ∧ yX3_giveUp.cls ≠ "java/lang/invoke/VarHandle" ∧ (parseMethodDescriptor yX3_giveUp.desc).map (fun d => d.parameters.length) = some 1 := by decide +kernel
set_option maxHeartbeats 4000000 in
set_option maxRecDepth 100000 in
theorem k_X3_giveUp (l : Launch) (D : va_G) (cA : ClassId) (tx ty : Nat) (o : Nat → Nat) (oR : St) (oT : St) (oB : St) (oC : St) (oG : St) (a1 : Int32) (oR' : St) (hf : f_X3_giveUp oR a1 = some (oR')) : Mv l yX3_giveUp wsX3_giveUp rmX3_giveUp D cA (z_X tx ty) [.ref (o 17), .int a1] (wX3 o cA oR oT oB oC oG) (wX3 o cA oR' oT oB oC oG) := by
  refine Mv.of (cc := cX3_giveUp) (maxL := 3) (by decide) rfl (Nat.le_of_ble_eq_true rfl) ?_
  intro p e s m below meth c A Q hx hb hml hown hts hK hA hZ hret ls hl hw
  replace hown : s.vm.findClass RX3 = some m.cls := hown
  have hl : lv_has ls 3 [(0, .ref (o 17)), (1, .int a1)] := hl
  have hZo := z_X_ok tx ty
  have hi3 : ∀ w ∈ wsX30, w ∈ wsX3_giveUp := fun w h => List.mem_cons_of_mem _ (List.mem_append_right _ h)
  have q0 := hts (.fieldLink RX3 34 "ArcRings$Rings" "size" "I") (by decide +kernel)
  have q1 := hts (.fieldLink RX3 9 "ArcRings$Rings" "keys" "[I") (by decide +kernel)
  have h_L11 : ∀ (K : St → Option (St)), (∀ (z0 : St), K z0 = some (oR') → ∀ (H : Heap) (locs : List Loc) (ls : Array Slot), Wd D A s.heap H locs (wX3 o cA z0 oT oB oC oG) → lv_has ls 3 [(0, .ref (o 17))] → W p l e rmX3_giveUp s m ([.ref (o 17), .int a1] : List Value).toArray below meth c H locs 0 0 Q (F0 m 41 ls [])) → ∀ (n : Nat) (v2 : Int32) (oR : St), f_X3_giveUp_L11 K n v2 oR = some (oR') → ∀ (H : Heap) (locs : List Loc) (ls : Array Slot), Wd D A s.heap H locs (wX3 o cA oR oT oB oC oG) → lv_has ls 3 [(0, .ref (o 17)), (2, .int v2)] → W p l e rmX3_giveUp s m ([.ref (o 17), .int a1] : List Value).toArray below meth c H locs 0 0 Q (F0 m 11 ls []) := by
    intro K hK9 n
    induction n with
    | zero =>
      intro v2 oR hf
      have hf : none = some (oR') := hf
      cases hf
    | succ n ih =>
      intro v2 oR hf H locs ls hw hl
      have hf := (f_X3_giveUp_L11_s K n v2 oR).symm.trans hf
      refine lv_iload_n hx hb dX3_giveUp_11 rfl (lv_at hl 1 rfl) ?_
      refine lv_iconst (v := 1) hx hb dX3_giveUp_12 (by decide) ?_
      refine lv_iadd hx hb dX3_giveUp_13 ?_
      refine lv_aload_n hx hb dX3_giveUp_14 rfl (lv_at hl 0 rfl) ?_
      refine w_get hx hb hts hi3 hown hK hw 0 rfl rfl 4 (by decide) q0 rfl (v := .int (oR.1 4)) rfl dX3_giveUp_15 ?_
      refine lv_icmp_ge (tgt := 41) hx hb dX3_giveUp_18 (by decide) (fun c4 => ?_) (fun c4 => ?_)
      · have hf := if_t c4 hf
        exact hK9 oR hf H locs ls hw (lv_sub hl [0] rfl)
      · have hf := if_f c4 hf
        refine lv_aload_n hx hb dX3_giveUp_21 rfl (lv_at hl 0 rfl) ?_
        refine w_get hx hb hts hi3 hown hK hw 0 rfl rfl 5 (by decide) q1 rfl (v := .ref (o 18)) rfl dX3_giveUp_22 ?_
        refine lv_iload_n hx hb dX3_giveUp_25 rfl (lv_at hl 1 rfl) ?_
        refine lv_aload_n hx hb dX3_giveUp_26 rfl (lv_at hl 0 rfl) ?_
        refine w_get hx hb hts hi3 hown hK hw 0 rfl rfl 5 (by decide) q1 rfl (v := .ref (o 18)) rfl dX3_giveUp_27 ?_
        refine lv_iload_n hx hb dX3_giveUp_30 rfl (lv_at hl 1 rfl) ?_
        refine lv_iconst (v := 1) hx hb dX3_giveUp_31 (by decide) ?_
        refine lv_iadd hx hb dX3_giveUp_32 ?_
        obtain ⟨x5, g6, hf⟩ := bn1_e hf
        refine w_ald hx hb hK hw 1 rfl g6 dX3_giveUp_33 ?_
        obtain ⟨oR8, g7, hf⟩ := bn1_e hf
        refine w_aws hx hb hK hw 1 rfl g7 (fun z => (wX3 o cA z oT oB oC oG)) (fun _ => rfl) dX3_giveUp_34 (fun H locs hw => ?_)
        refine lv_iinc (v := v2 + 1) (lv' := [(2, .int (v2 + 1)), (0, .ref (o 17))]) hx hb dX3_giveUp_35 hl (k := 1) rfl (by rfl) (by decide) rfl (fun ls hl => ?_)
        refine lv_goto (tgt := 11) hx hb dX3_giveUp_38 (by decide) ?_
        exact ih (v2 + 1) oR8 hf H locs ls hw (lv_sub hl [1, 0] rfl)
  unfold f_X3_giveUp at hf
  obtain ⟨H, hH⟩ : ∃ H, H = s.heap := ⟨_, rfl⟩
  obtain ⟨locs, hlc⟩ : ∃ locs : List Loc, locs = [] := ⟨_, rfl⟩
  have hw : Wd D A s.heap H locs (wX3 o cA oR oT oB oC oG) := by rw [hH, hlc]; exact hw
  have goal : W p l e rmX3_giveUp s m ([.ref (o 17), .int a1] : List Value).toArray below meth c H locs 0 0 Q (F0 m 0 ls []) := by
    clear hH hlc
    refine lv_aload_n hx hb dX3_giveUp_0 rfl (lv_at hl 0 rfl) ?_
    refine lv_iload_n hx hb dX3_giveUp_1 rfl (lv_at hl 1 rfl) ?_
    obtain ⟨x1, g2, hf⟩ := bn1_e hf
    have fr := fr_X3_X3_oR_oT_oB_oC_oG o cA oR oT oB oC oG oR oT oB oC oG
    refine go_i (run_v (As := [.int a1]) (rest := []) ⟨hx, hb, hml, hown, hts⟩ (k_X3_has l D cA tx ty o oR oT oB oC oG a1 x1 g2 H.size) (cwV 1 hts gX3_giveUp_X3_has rfl rfl rfl hd_X3_has ⟨Nat.le_of_ble_eq_true rfl, Nat.le_of_ble_eq_true rfl⟩) fr hw hK hA hZo hZ (ci := 3) rfl rfl rfl rfl hl.1 rfl (Nat.le_of_ble_eq_true rfl) dX3_giveUp_2 ⟨Nat.zero_le _, Nat.zero_le _⟩) fr hw hA (fun H locs hw => ?_)
    refine lv_if_ne (tgt := 9) hx hb dX3_giveUp_5 (by decide) (fun c3 => ?_) (fun c3 => ?_)
    · have hf := if_f c3 hf
      refine lv_iload_n hx hb dX3_giveUp_9 rfl (lv_at hl 1 rfl) ?_
      refine lv_istore_n (lv' := [(2, .int a1), (0, .ref (o 17)), (1, .int a1)]) hx hb dX3_giveUp_10 rfl hl (by decide) rfl (fun ls hl => ?_)
      refine h_L11  _ ?_ _ a1 oR hf H locs ls hw (lv_sub hl [1, 0] rfl)
      intro oR9 hf H locs ls hw hl
      refine lv_aload_n hx hb dX3_giveUp_41 rfl (lv_at hl 0 rfl) ?_
      refine lv_dup hx hb dX3_giveUp_42 rfl ?_
      refine w_get hx hb hts hi3 hown hK hw 0 rfl rfl 4 (by decide) q0 rfl (v := .int (oR9.1 4)) rfl dX3_giveUp_43 ?_
      refine lv_iconst (v := 1) hx hb dX3_giveUp_46 (by decide) ?_
      refine lv_isub hx hb dX3_giveUp_47 ?_
      refine w_put (ws' := (wX3 o cA ((sI oR9 4 ((oR9.1 4) - 1))) oT oB oC oG)) hx hb hts hi3 tyX3 tyX3_ok nmX3 hown hK hw 0 rfl rfl 4 (by decide) q0 rfl rfl rfl rfl (Nat.le_of_ble_eq_true rfl) rfl dX3_giveUp_48 (fun H locs hw => ?_)
      have e0_ := sm1 hf
      exact hret _ _ _ _ (by rw [← e0_]; exact hw) dX3_giveUp_51
    · have hf := if_t c3 hf
      have e0_ := sm1 hf
      exact hret _ _ _ _ (by rw [← e0_]; exact hw) dX3_giveUp_8
  rw [hH, hlc] at goal
  exact goal
abbrev rmX3_tellOffAnew : Room := { frames := 4, cells := 0, slots := 0, locals := 99 }
theorem hd_X3_tellOffAnew : yX3_tellOffAnew.cls = RX3 ∧ yX3_tellOffAnew.cls ≠ "java/lang/invoke/MethodHandle" ∧ yX3_tellOffAnew.cls ≠ "java/lang/invoke/VarHandle" ∧ (parseMethodDescriptor yX3_tellOffAnew.desc).map (fun d => d.parameters.length) = some 0 := by decide +kernel
set_option maxHeartbeats 4000000 in
set_option maxRecDepth 100000 in
theorem k_X3_tellOffAnew (l : Launch) (D : va_G) (cA : ClassId) (tx ty : Nat) (o : Nat → Nat) (oR : St) (oT : St) (oB : St) (oC : St) (oG : St) (oR' : St) (oG' : St) (hf : f_X3_tellOffAnew oR oB oG = some (oR', oG')) : Mv l yX3_tellOffAnew wsX3_tellOffAnew rmX3_tellOffAnew D cA (z_X tx ty) [.ref (o 17)] (wX3 o cA oR oT oB oC oG) (wX3 o cA oR' oT oB oC oG') := by
  refine Mv.of (cc := cX3_tellOffAnew) (maxL := 3) (by decide) rfl (Nat.le_of_ble_eq_true rfl) ?_
  intro p e s m below meth c A Q hx hb hml hown hts hK hA hZ hret ls hl hw
  replace hown : s.vm.findClass RX3 = some m.cls := hown
  have hl : lv_has ls 3 [(0, .ref (o 17))] := hl
  have hZo := z_X_ok tx ty
  have h_L2 : ∀ (n : Nat) (v1 : Int32) (oR : St) (oG : St), f_X3_tellOffAnew_L2 oB n v1 oR oG = some (oR', oG') → ∀ (H : Heap) (locs : List Loc) (ls : Array Slot), Wd D A s.heap H locs (wX3 o cA oR oT oB oC oG) → lv_has ls 3 [(0, .ref (o 17)), (1, .int v1)] → W p l e rmX3_tellOffAnew s m ([.ref (o 17)] : List Value).toArray below meth c H locs 0 0 Q (F0 m 2 ls []) := by
    intro n
    induction n with
    | zero =>
      intro v1 oR oG hf
      have hf : none = some (oR', oG') := hf
      cases hf
    | succ n ih =>
      intro v1 oR oG hf H locs ls hw hl
      have hf := (f_X3_tellOffAnew_L2_s oB n v1 oR oG).symm.trans hf
      refine lv_iload_n hx hb dX3_tellOffAnew_2 rfl (lv_at hl 1 rfl) ?_
      refine lv_bipush (v := 7) hx hb dX3_tellOffAnew_3 (by decide) ?_
      refine lv_icmp_gt (tgt := 34) hx hb dX3_tellOffAnew_5 (by decide) (fun c1 => ?_) (fun c1 => ?_)
      · have hf := if_t c1 hf
        obtain ⟨e0_, e1_⟩ := sm2 hf
        exact hret _ _ _ _ (by rw [← e0_, ← e1_]; exact hw) dX3_tellOffAnew_34
      · have hf := if_f c1 hf
        refine lv_aload_n hx hb dX3_tellOffAnew_8 rfl (lv_at hl 0 rfl) ?_
        obtain ⟨oR2, oG3, g4, hf⟩ := bn2_e hf
        have fr := fr_X3_X3_oR_oT_oB_oC_oG o cA oR oT oB oC oG oR2 oT oB oC oG3
        refine go_v (run_v (As := []) (rest := []) ⟨hx, hb, hml, hown, hts⟩ (k_X3_tellOff l D cA tx ty o oR oT oB oC oG oR2 oG3 g4 H.size) (cwV 0 hts gX3_tellOffAnew_X3_tellOff rfl rfl rfl hd_X3_tellOff ⟨Nat.le_of_ble_eq_true rfl, Nat.le_of_ble_eq_true rfl⟩) fr hw hK hA hZo hZ (ci := 3) rfl rfl rfl rfl hl.1 rfl (Nat.le_of_ble_eq_true rfl) dX3_tellOffAnew_9 ⟨Nat.zero_le _, Nat.zero_le _⟩) fr hw hA (fun H locs hw => ?_)
        refine lv_aload_n hx hb dX3_tellOffAnew_12 rfl (lv_at hl 0 rfl) ?_
        obtain ⟨x5, g6, hf⟩ := bn1_e hf
        have fr := fr_X3_X3_oR_oT_oB_oC_oG o cA oR2 oT oB oC oG3 oR2 oT oB oC oG3
        refine go_i (run_v (As := []) (rest := []) ⟨hx, hb, hml, hown, hts⟩ (k_X3_weakest l D cA tx ty o oR2 oT oB oC oG3 x5 g6 H.size) (cwV 0 hts gX3_tellOffAnew_X3_weakest rfl rfl rfl hd_X3_weakest ⟨Nat.le_of_ble_eq_true rfl, Nat.le_of_ble_eq_true rfl⟩) fr hw hK hA hZo hZ (ci := 3) rfl rfl rfl rfl hl.1 rfl (Nat.le_of_ble_eq_true rfl) dX3_tellOffAnew_13 ⟨Nat.zero_le _, Nat.zero_le _⟩) fr hw hA (fun H locs hw => ?_)
        refine lv_istore_n (lv' := [(2, .int x5), (0, .ref (o 17)), (1, .int v1)]) hx hb dX3_tellOffAnew_16 rfl hl (by decide) rfl (fun ls hl => ?_)
        refine lv_iload_n hx hb dX3_tellOffAnew_17 rfl (lv_at hl 0 rfl) ?_
        refine lv_iconst (v := (-1)) hx hb dX3_tellOffAnew_18 (by decide) ?_
        refine lv_icmp_ne (tgt := 23) hx hb dX3_tellOffAnew_19 (by decide) (fun c7 => ?_) (fun c7 => ?_)
        · have hf := if_f c7 hf
          refine lv_aload_n hx hb dX3_tellOffAnew_23 rfl (lv_at hl 1 rfl) ?_
          refine lv_iload_n hx hb dX3_tellOffAnew_24 rfl (lv_at hl 0 rfl) ?_
          obtain ⟨oR8, g9, hf⟩ := bn1_e hf
          have fr := fr_X3_X3_oR_oT_oB_oC_oG o cA oR2 oT oB oC oG3 oR8 oT oB oC oG3
          refine go_v (run_v (As := [.int x5]) (rest := []) ⟨hx, hb, hml, hown, hts⟩ (k_X3_giveUp l D cA tx ty o oR2 oT oB oC oG3 x5 oR8 g9 H.size) (cwV 1 hts gX3_tellOffAnew_X3_giveUp rfl rfl rfl hd_X3_giveUp ⟨Nat.le_of_ble_eq_true rfl, Nat.le_of_ble_eq_true rfl⟩) fr hw hK hA hZo hZ (ci := 3) rfl rfl rfl rfl hl.1 rfl (Nat.le_of_ble_eq_true rfl) dX3_tellOffAnew_25 ⟨Nat.zero_le _, Nat.zero_le _⟩) fr hw hA (fun H locs hw => ?_)
          refine lv_iinc (v := v1 + 1) (lv' := [(1, .int (v1 + 1)), (2, .int x5), (0, .ref (o 17))]) hx hb dX3_tellOffAnew_28 hl (k := 2) rfl (by rfl) (by decide) rfl (fun ls hl => ?_)
          refine lv_goto (tgt := 2) hx hb dX3_tellOffAnew_31 (by decide) ?_
          exact ih (v1 + 1) oR8 oG3 hf H locs ls hw (lv_sub hl [2, 0] rfl)
        · have hf := if_t c7 hf
          obtain ⟨e0_, e1_⟩ := sm2 hf
          exact hret _ _ _ _ (by rw [← e0_, ← e1_]; exact hw) dX3_tellOffAnew_22
  unfold f_X3_tellOffAnew at hf
  obtain ⟨H, hH⟩ : ∃ H, H = s.heap := ⟨_, rfl⟩
  obtain ⟨locs, hlc⟩ : ∃ locs : List Loc, locs = [] := ⟨_, rfl⟩
  have hw : Wd D A s.heap H locs (wX3 o cA oR oT oB oC oG) := by rw [hH, hlc]; exact hw
  have goal : W p l e rmX3_tellOffAnew s m ([.ref (o 17)] : List Value).toArray below meth c H locs 0 0 Q (F0 m 0 ls []) := by
    clear hH hlc
    refine lv_iconst (v := 0) hx hb dX3_tellOffAnew_0 (by decide) ?_
    refine lv_istore_n (lv' := [(1, .int 0), (0, .ref (o 17))]) hx hb dX3_tellOffAnew_1 rfl hl (by decide) rfl (fun ls hl => ?_)
    exact h_L2  _ 0 oR oG hf H locs ls hw (lv_sub hl [1, 0] rfl)
  rw [hH, hlc] at goal
  exact goal
abbrev rmX3_spanOf : Room := { frames := 2, cells := 0, slots := 0, locals := 47 }
theorem hd_X3_spanOf : yX3_spanOf.cls = RX3 ∧ yX3_spanOf.cls ≠ "java/lang/invoke/MethodHandle" ∧ yX3_spanOf.cls ≠ "java/lang/invoke/VarHandle" ∧ (parseMethodDescriptor yX3_spanOf.desc).map (fun d => d.parameters.length) = some 1 := by decide +kernel
set_option maxHeartbeats 4000000 in
set_option maxRecDepth 100000 in
theorem k_X3_spanOf (l : Launch) (D : va_G) (cA : ClassId) (tx ty : Nat) (o : Nat → Nat) (oR : St) (oT : St) (oB : St) (oC : St) (oG : St) (a1 : Int32) (r : Int32) (oG' : St) (hf : f_X3_spanOf oR oB oG a1 = some (r, oG')) : Mi l yX3_spanOf wsX3_spanOf rmX3_spanOf D cA (z_X tx ty) [.ref (o 17), .int a1] (wX3 o cA oR oT oB oC oG) r (wX3 o cA oR oT oB oC oG') := by
  refine Mi.of (cc := cX3_spanOf) (maxL := 2) (ret := (some .int)) (plainFor_of_name (by decide)) rfl (Nat.le_of_ble_eq_true rfl) (Or.inl rfl) ?_
  intro p e s m below meth c A Q hx hb hml hown hts hK hA hZ hret ls hl hw
  replace hown : s.vm.findClass RX3 = some m.cls := hown
  have hl : lv_has ls 2 [(0, .ref (o 17)), (1, .int a1)] := hl
  have hZo := z_X_ok tx ty
  have hi3 : ∀ w ∈ wsX30, w ∈ wsX3_spanOf := fun w h => List.mem_cons_of_mem _ (List.mem_append_left _ (List.mem_append_left _ (List.mem_append_right _ h)))
  have q0 := hts (.fieldLink RX3 26 "ArcRings$Rings" "sight" "LArcRings$Sight;") (by decide +kernel)
  have q1 := hts (.fieldLink RX3 9 "ArcRings$Rings" "keys" "[I") (by decide +kernel)
  have q2 := hts (.fieldLink RX3 15 "ArcRings$Rings" "own" "[I") (by decide +kernel)
  unfold f_X3_spanOf at hf
  obtain ⟨H, hH⟩ : ∃ H, H = s.heap := ⟨_, rfl⟩
  obtain ⟨locs, hlc⟩ : ∃ locs : List Loc, locs = [] := ⟨_, rfl⟩
  have hw : Wd D A s.heap H locs (wX3 o cA oR oT oB oC oG) := by rw [hH, hlc]; exact hw
  have goal : W p l e rmX3_spanOf s m ([.ref (o 17), .int a1] : List Value).toArray below meth c H locs 0 0 Q (F0 m 0 ls []) := by
    clear hH hlc
    refine lv_aload_n hx hb dX3_spanOf_0 rfl (lv_at hl 0 rfl) ?_
    refine w_get hx hb hts hi3 hown hK hw 0 rfl rfl 2 (by decide) q0 rfl (v := .ref (o 12)) rfl dX3_spanOf_1 ?_
    refine lv_aload_n hx hb dX3_spanOf_4 rfl (lv_at hl 0 rfl) ?_
    refine w_get hx hb hts hi3 hown hK hw 0 rfl rfl 5 (by decide) q1 rfl (v := .ref (o 18)) rfl dX3_spanOf_5 ?_
    refine lv_iload_n hx hb dX3_spanOf_8 rfl (lv_at hl 1 rfl) ?_
    obtain ⟨x1, g2, hf⟩ := bn1_e hf
    refine w_ald hx hb hK hw 1 rfl g2 dX3_spanOf_9 ?_
    obtain ⟨oG3, g4, hf⟩ := bn1_e hf
    have fr := fr_X3_X4_oG_oB o cA oR oT oB oC oG oG3 oB
    refine go_v (run_v (As := [.int x1]) (rest := []) ⟨hx, hb, hml, hown, hts⟩ (k_X4_from l D cA tx ty o oG oB x1 oG3 g4 H.size) (cwV 1 hts gX3_spanOf_X4_from rfl rfl rfl hd_X4_from ⟨Nat.le_of_ble_eq_true rfl, Nat.le_of_ble_eq_true rfl⟩) fr hw hK hA hZo hZ (ci := 4) rfl rfl rfl rfl hl.1 rfl (Nat.le_of_ble_eq_true rfl) dX3_spanOf_10 ⟨Nat.zero_le _, Nat.zero_le _⟩) fr hw hA (fun H locs hw => ?_)
    refine lv_aload_n hx hb dX3_spanOf_13 rfl (lv_at hl 0 rfl) ?_
    refine w_get hx hb hts hi3 hown hK hw 0 rfl rfl 2 (by decide) q0 rfl (v := .ref (o 12)) rfl dX3_spanOf_14 ?_
    refine lv_aload_n hx hb dX3_spanOf_17 rfl (lv_at hl 0 rfl) ?_
    refine w_get hx hb hts hi3 hown hK hw 0 rfl rfl 6 (by decide) q2 rfl (v := .ref (o 19)) rfl dX3_spanOf_18 ?_
    refine lv_iload_n hx hb dX3_spanOf_21 rfl (lv_at hl 1 rfl) ?_
    obtain ⟨x5, g6, hf⟩ := bn1_e hf
    refine w_ald hx hb hK hw 2 rfl g6 dX3_spanOf_22 ?_
    obtain ⟨x7, g8, hf⟩ := bn1_e hf
    have fr := fr_X3_X4_oG_oB o cA oR oT oB oC oG3 oG3 oB
    refine go_i (run_v (As := [.int x5]) (rest := []) ⟨hx, hb, hml, hown, hts⟩ (k_X4_span l D cA tx ty o oG3 oB x5 x7 g8 H.size) (cwV 1 hts gX3_spanOf_X4_span rfl rfl rfl hd_X4_span ⟨Nat.le_of_ble_eq_true rfl, Nat.le_of_ble_eq_true rfl⟩) fr hw hK hA hZo hZ (ci := 4) rfl rfl rfl rfl hl.1 rfl (Nat.le_of_ble_eq_true rfl) dX3_spanOf_23 ⟨Nat.zero_le _, Nat.zero_le _⟩) fr hw hA (fun H locs hw => ?_)
    obtain ⟨e0_, e1_⟩ := sm2 hf
    exact hret _ _ _ _ _ (by rw [← e1_]; exact hw) e0_ (Or.inl rfl) dX3_spanOf_26
  rw [hH, hlc] at goal
  exact goal
abbrev rmX3_kindOf : Room := { frames := 3, cells := 0, slots := 0, locals := 68 }
theorem hd_X3_kindOf : yX3_kindOf.cls = RX3 ∧ yX3_kindOf.cls ≠ "java/lang/invoke/MethodHandle" ∧ yX3_kindOf.cls ≠ "java/lang/invoke/VarHandle" ∧ (parseMethodDescriptor yX3_kindOf.desc).map (fun d => d.parameters.length) = some 1 := by decide +kernel
set_option maxHeartbeats 4000000 in
set_option maxRecDepth 100000 in
theorem k_X3_kindOf (l : Launch) (D : va_G) (cA : ClassId) (tx ty : Nat) (o : Nat → Nat) (oR : St) (oT : St) (oB : St) (oC : St) (oG : St) (a1 : Int32) (r : Int32) (oG' : St) (hf : f_X3_kindOf oR oB oG a1 = some (r, oG')) : Mi l yX3_kindOf wsX3_kindOf rmX3_kindOf D cA (z_X tx ty) [.ref (o 17), .int a1] (wX3 o cA oR oT oB oC oG) r (wX3 o cA oR oT oB oC oG') := by
  refine Mi.of (cc := cX3_kindOf) (maxL := 2) (ret := (some .int)) (plainFor_of_name (by decide)) rfl (Nat.le_of_ble_eq_true rfl) (Or.inl rfl) ?_
  intro p e s m below meth c A Q hx hb hml hown hts hK hA hZ hret ls hl hw
  replace hown : s.vm.findClass RX3 = some m.cls := hown
  have hl : lv_has ls 2 [(0, .ref (o 17)), (1, .int a1)] := hl
  have hZo := z_X_ok tx ty
  unfold f_X3_kindOf at hf
  obtain ⟨H, hH⟩ : ∃ H, H = s.heap := ⟨_, rfl⟩
  obtain ⟨locs, hlc⟩ : ∃ locs : List Loc, locs = [] := ⟨_, rfl⟩
  have hw : Wd D A s.heap H locs (wX3 o cA oR oT oB oC oG) := by rw [hH, hlc]; exact hw
  have goal : W p l e rmX3_kindOf s m ([.ref (o 17), .int a1] : List Value).toArray below meth c H locs 0 0 Q (F0 m 0 ls []) := by
    clear hH hlc
    refine lv_aload_n hx hb dX3_kindOf_0 rfl (lv_at hl 0 rfl) ?_
    refine lv_iload_n hx hb dX3_kindOf_1 rfl (lv_at hl 1 rfl) ?_
    obtain ⟨x1, oG2, g3, hf⟩ := bn2_e hf
    have fr := fr_X3_X3_oR_oT_oB_oC_oG o cA oR oT oB oC oG oR oT oB oC oG2
    refine go_i (run_v (As := [.int a1]) (rest := []) ⟨hx, hb, hml, hown, hts⟩ (k_X3_spanOf l D cA tx ty o oR oT oB oC oG a1 x1 oG2 g3 H.size) (cwV 1 hts gX3_kindOf_X3_spanOf rfl rfl rfl hd_X3_spanOf ⟨Nat.le_of_ble_eq_true rfl, Nat.le_of_ble_eq_true rfl⟩) fr hw hK hA hZo hZ (ci := 3) rfl rfl rfl rfl hl.1 rfl (Nat.le_of_ble_eq_true rfl) dX3_kindOf_2 ⟨Nat.zero_le _, Nat.zero_le _⟩) fr hw hA (fun H locs hw => ?_)
    refine lv_bipush (v := 8) hx hb dX3_kindOf_5 (by decide) ?_
    refine lv_icmp_ne (tgt := 14) hx hb dX3_kindOf_7 (by decide) (fun c4 => ?_) (fun c4 => ?_)
    · have hf := if_f c4 hf
      refine lv_iconst (v := 1) hx hb dX3_kindOf_14 (by decide) ?_
      obtain ⟨e0_, e1_⟩ := sm2 hf
      exact hret _ _ _ _ _ (by rw [← e1_]; exact hw) e0_ (Or.inl rfl) dX3_kindOf_15
    · have hf := if_t c4 hf
      refine lv_iconst (v := 0) hx hb dX3_kindOf_10 (by decide) ?_
      refine lv_goto (tgt := 15) hx hb dX3_kindOf_11 (by decide) ?_
      obtain ⟨e0_, e1_⟩ := sm2 hf
      exact hret _ _ _ _ _ (by rw [← e1_]; exact hw) e0_ (Or.inl rfl) dX3_kindOf_15
  rw [hH, hlc] at goal
  exact goal
abbrev rmX3_tell : Room := { frames := 4, cells := 0, slots := 0, locals := 89 }
theorem hd_X3_tell : yX3_tell.cls = RX3 ∧ yX3_tell.cls ≠ "java/lang/invoke/MethodHandle" ∧ yX3_tell.cls ≠ "java/lang/invoke/VarHandle" ∧ (parseMethodDescriptor yX3_tell.desc).map (fun d => d.parameters.length) = some 2 := by decide +kernel
set_option maxHeartbeats 4000000 in
set_option maxRecDepth 100000 in
theorem k_X3_tell (l : Launch) (D : va_G) (cA : ClassId) (tx ty : Nat) (o : Nat → Nat) (oR : St) (oT : St) (oB : St) (oC : St) (oG : St) (a1 : Int32) (a2 : Int32) (r : Int32) (oG' : St) (hf : f_X3_tell oR oB oG a1 a2 = some (r, oG')) : Mi l yX3_tell wsX3_tell rmX3_tell D cA (z_X tx ty) [.ref (o 17), .int a1, .int a2] (wX3 o cA oR oT oB oC oG) r (wX3 o cA oR oT oB oC oG') := by
  refine Mi.of (cc := cX3_tell) (maxL := 3) (ret := (some .int)) (plainFor_of_name (by decide)) rfl (Nat.le_of_ble_eq_true rfl) (Or.inl rfl) ?_
  intro p e s m below meth c A Q hx hb hml hown hts hK hA hZ hret ls hl hw
  replace hown : s.vm.findClass RX3 = some m.cls := hown
  have hl : lv_has ls 3 [(0, .ref (o 17)), (1, .int a1), (2, .int a2)] := hl
  have hZo := z_X_ok tx ty
  have hi3 : ∀ w ∈ wsX30, w ∈ wsX3_tell := fun w h => List.mem_cons_of_mem _ (List.mem_append_left _ (List.mem_append_left _ (List.mem_append_right _ h)))
  have q0 := hts (.fieldLink RX3 9 "ArcRings$Rings" "keys" "[I") (by decide +kernel)
  have q1 := hts (.initialized RX6) (by decide +kernel)
  have q2 := hts (.static yX6_keyX) (by decide +kernel)
  have q3 := hts (.static yX6_keyY) (by decide +kernel)
  have q4 := hts (.static yX6_keyRadius) (by decide +kernel)
  have q5 := hts (.fieldLink RX3 15 "ArcRings$Rings" "own" "[I") (by decide +kernel)
  unfold f_X3_tell at hf
  obtain ⟨H, hH⟩ : ∃ H, H = s.heap := ⟨_, rfl⟩
  obtain ⟨locs, hlc⟩ : ∃ locs : List Loc, locs = [] := ⟨_, rfl⟩
  have hw : Wd D A s.heap H locs (wX3 o cA oR oT oB oC oG) := by rw [hH, hlc]; exact hw
  have goal : W p l e rmX3_tell s m ([.ref (o 17), .int a1, .int a2] : List Value).toArray below meth c H locs 0 0 Q (F0 m 0 ls []) := by
    clear hH hlc
    refine lv_iload_n hx hb dX3_tell_0 rfl (lv_at hl 2 rfl) ?_
    by_cases c1 : a2 = 0
    · have hf := if_t c1 hf
      refine lv_tableIn (tgt := 44) hx hb dX3_tell_1 (by rw [c1]; decide) (by rw [c1]; decide) (by rw [c1]; rfl) (by decide) ?_
      refine lv_aload_n hx hb dX3_tell_44 rfl (lv_at hl 0 rfl) ?_
      refine w_get hx hb hts hi3 hown hK hw 0 rfl rfl 5 (by decide) q0 rfl (v := .ref (o 18)) rfl dX3_tell_45 ?_
      refine lv_iload_n hx hb dX3_tell_48 rfl (lv_at hl 1 rfl) ?_
      obtain ⟨x2, g3, hf⟩ := bn1_e hf
      refine w_ald hx hb hK hw 1 rfl g3 dX3_tell_49 ?_
      obtain ⟨x4, g5, hf⟩ := bn1_e hf
      have fr := fr_X3_S o cA oR oT oB oC oG
      refine go_i (run_n (As := [.int x2]) (rest := []) ⟨hx, hb, hml, hown, hts⟩ (k_X6_keyX l D cA x2 x4 g5 H.size) ⟨va_cnB 1 hts gX3_tell_X6_keyX_n109 rfl rfl rfl (hZ.2.2.2.2.2 (RX3, 109, yX6_keyX) (List.mem_of_getElem? (i := 10) rfl)) q1 hd_X6_keyX ⟨Nat.le_of_ble_eq_true rfl, Nat.le_of_ble_eq_true rfl⟩, q2, trivial⟩ fr hw hK hA rfl hl.1 rfl (Nat.le_of_ble_eq_true rfl) dX3_tell_50 ⟨Nat.zero_le _, Nat.zero_le _⟩) fr hw hA (fun H locs hw => ?_)
      obtain ⟨e0_, e1_⟩ := sm2 hf
      exact hret _ _ _ _ _ (by rw [← e1_]; exact hw) e0_ (Or.inl rfl) dX3_tell_53
    have hf := if_f c1 hf
    by_cases c6 : a2 = 1
    · have hf := if_t c6 hf
      refine lv_tableIn (tgt := 54) hx hb dX3_tell_1 (by rw [c6]; decide) (by rw [c6]; decide) (by rw [c6]; rfl) (by decide) ?_
      refine lv_aload_n hx hb dX3_tell_54 rfl (lv_at hl 0 rfl) ?_
      refine w_get hx hb hts hi3 hown hK hw 0 rfl rfl 5 (by decide) q0 rfl (v := .ref (o 18)) rfl dX3_tell_55 ?_
      refine lv_iload_n hx hb dX3_tell_58 rfl (lv_at hl 1 rfl) ?_
      obtain ⟨x7, g8, hf⟩ := bn1_e hf
      refine w_ald hx hb hK hw 1 rfl g8 dX3_tell_59 ?_
      obtain ⟨x9, g10, hf⟩ := bn1_e hf
      have fr := fr_X3_S o cA oR oT oB oC oG
      refine go_i (run_n (As := [.int x7]) (rest := []) ⟨hx, hb, hml, hown, hts⟩ (k_X6_keyY l D cA x7 x9 g10 H.size) ⟨va_cnB 1 hts gX3_tell_X6_keyY_n112 rfl rfl rfl (hZ.2.2.2.2.2 (RX3, 112, yX6_keyY) (List.mem_of_getElem? (i := 11) rfl)) q1 hd_X6_keyY ⟨Nat.le_of_ble_eq_true rfl, Nat.le_of_ble_eq_true rfl⟩, q3, trivial⟩ fr hw hK hA rfl hl.1 rfl (Nat.le_of_ble_eq_true rfl) dX3_tell_60 ⟨Nat.zero_le _, Nat.zero_le _⟩) fr hw hA (fun H locs hw => ?_)
      obtain ⟨e0_, e1_⟩ := sm2 hf
      exact hret _ _ _ _ _ (by rw [← e1_]; exact hw) e0_ (Or.inl rfl) dX3_tell_63
    have hf := if_f c6 hf
    by_cases c11 : a2 = 2
    · have hf := if_t c11 hf
      refine lv_tableIn (tgt := 64) hx hb dX3_tell_1 (by rw [c11]; decide) (by rw [c11]; decide) (by rw [c11]; rfl) (by decide) ?_
      refine lv_aload_n hx hb dX3_tell_64 rfl (lv_at hl 0 rfl) ?_
      refine w_get hx hb hts hi3 hown hK hw 0 rfl rfl 5 (by decide) q0 rfl (v := .ref (o 18)) rfl dX3_tell_65 ?_
      refine lv_iload_n hx hb dX3_tell_68 rfl (lv_at hl 1 rfl) ?_
      obtain ⟨x12, g13, hf⟩ := bn1_e hf
      refine w_ald hx hb hK hw 1 rfl g13 dX3_tell_69 ?_
      obtain ⟨x14, g15, hf⟩ := bn1_e hf
      have fr := fr_X3_S o cA oR oT oB oC oG
      refine go_i (run_n (As := [.int x12]) (rest := []) ⟨hx, hb, hml, hown, hts⟩ (k_X6_keyRadius l D cA x12 x14 g15 H.size) ⟨va_cnB 1 hts gX3_tell_X6_keyRadius_n115 rfl rfl rfl (hZ.2.2.2.2.2 (RX3, 115, yX6_keyRadius) (List.mem_of_getElem? (i := 12) rfl)) q1 hd_X6_keyRadius ⟨Nat.le_of_ble_eq_true rfl, Nat.le_of_ble_eq_true rfl⟩, q4, trivial⟩ fr hw hK hA rfl hl.1 rfl (Nat.le_of_ble_eq_true rfl) dX3_tell_70 ⟨Nat.zero_le _, Nat.zero_le _⟩) fr hw hA (fun H locs hw => ?_)
      obtain ⟨e0_, e1_⟩ := sm2 hf
      exact hret _ _ _ _ _ (by rw [← e1_]; exact hw) e0_ (Or.inl rfl) dX3_tell_73
    have hf := if_f c11 hf
    by_cases c16 : a2 = 3
    · have hf := if_t c16 hf
      refine lv_tableIn (tgt := 74) hx hb dX3_tell_1 (by rw [c16]; decide) (by rw [c16]; decide) (by rw [c16]; rfl) (by decide) ?_
      refine lv_aload_n hx hb dX3_tell_74 rfl (lv_at hl 0 rfl) ?_
      refine lv_iload_n hx hb dX3_tell_75 rfl (lv_at hl 1 rfl) ?_
      obtain ⟨x17, g18, hf⟩ := bn1_e hf
      have fr := fr_X3_X3_oR_oT_oB_oC_oG o cA oR oT oB oC oG oR oT oB oC oG
      refine go_i (run_v (As := [.int a1]) (rest := []) ⟨hx, hb, hml, hown, hts⟩ (k_X3_ownCount l D cA tx ty o oR oT oB oC oG a1 x17 g18 H.size) (cwV 1 hts gX3_tell_X3_ownCount rfl rfl rfl hd_X3_ownCount ⟨Nat.le_of_ble_eq_true rfl, Nat.le_of_ble_eq_true rfl⟩) fr hw hK hA hZo hZ (ci := 3) rfl rfl rfl rfl hl.1 rfl (Nat.le_of_ble_eq_true rfl) dX3_tell_76 ⟨Nat.zero_le _, Nat.zero_le _⟩) fr hw hA (fun H locs hw => ?_)
      obtain ⟨e0_, e1_⟩ := sm2 hf
      exact hret _ _ _ _ _ (by rw [← e1_]; exact hw) e0_ (Or.inl rfl) dX3_tell_79
    have hf := if_f c16 hf
    by_cases c19 : a2 = 4
    · have hf := if_t c19 hf
      refine lv_tableIn (tgt := 80) hx hb dX3_tell_1 (by rw [c19]; decide) (by rw [c19]; decide) (by rw [c19]; rfl) (by decide) ?_
      refine lv_aload_n hx hb dX3_tell_80 rfl (lv_at hl 0 rfl) ?_
      refine w_get hx hb hts hi3 hown hK hw 0 rfl rfl 6 (by decide) q5 rfl (v := .ref (o 19)) rfl dX3_tell_81 ?_
      refine lv_iload_n hx hb dX3_tell_84 rfl (lv_at hl 1 rfl) ?_
      obtain ⟨x20, g21, hf⟩ := bn1_e hf
      refine w_ald hx hb hK hw 2 rfl g21 dX3_tell_85 ?_
      obtain ⟨e0_, e1_⟩ := sm2 hf
      exact hret _ _ _ _ _ (by rw [← e1_]; exact hw) e0_ (Or.inl rfl) dX3_tell_86
    have hf := if_f c19 hf
    by_cases c22 : a2 = 5
    · have hf := if_t c22 hf
      refine lv_tableIn (tgt := 87) hx hb dX3_tell_1 (by rw [c22]; decide) (by rw [c22]; decide) (by rw [c22]; rfl) (by decide) ?_
      refine lv_aload_n hx hb dX3_tell_87 rfl (lv_at hl 0 rfl) ?_
      refine lv_iload_n hx hb dX3_tell_88 rfl (lv_at hl 1 rfl) ?_
      obtain ⟨x23, oG24, g25, hf⟩ := bn2_e hf
      have fr := fr_X3_X3_oR_oT_oB_oC_oG o cA oR oT oB oC oG oR oT oB oC oG24
      refine go_i (run_v (As := [.int a1]) (rest := []) ⟨hx, hb, hml, hown, hts⟩ (k_X3_spanOf l D cA tx ty o oR oT oB oC oG a1 x23 oG24 g25 H.size) (cwV 1 hts gX3_tell_X3_spanOf rfl rfl rfl hd_X3_spanOf ⟨Nat.le_of_ble_eq_true rfl, Nat.le_of_ble_eq_true rfl⟩) fr hw hK hA hZo hZ (ci := 3) rfl rfl rfl rfl hl.1 rfl (Nat.le_of_ble_eq_true rfl) dX3_tell_89 ⟨Nat.zero_le _, Nat.zero_le _⟩) fr hw hA (fun H locs hw => ?_)
      obtain ⟨e0_, e1_⟩ := sm2 hf
      exact hret _ _ _ _ _ (by rw [← e1_]; exact hw) e0_ (Or.inl rfl) dX3_tell_92
    have hf := if_f c22 hf
    by_cases c26 : a2 = 6
    · have hf := if_t c26 hf
      refine lv_tableIn (tgt := 93) hx hb dX3_tell_1 (by rw [c26]; decide) (by rw [c26]; decide) (by rw [c26]; rfl) (by decide) ?_
      refine lv_aload_n hx hb dX3_tell_93 rfl (lv_at hl 0 rfl) ?_
      refine lv_iload_n hx hb dX3_tell_94 rfl (lv_at hl 1 rfl) ?_
      obtain ⟨x27, oG28, g29, hf⟩ := bn2_e hf
      have fr := fr_X3_X3_oR_oT_oB_oC_oG o cA oR oT oB oC oG oR oT oB oC oG28
      refine go_i (run_v (As := [.int a1]) (rest := []) ⟨hx, hb, hml, hown, hts⟩ (k_X3_kindOf l D cA tx ty o oR oT oB oC oG a1 x27 oG28 g29 H.size) (cwV 1 hts gX3_tell_X3_kindOf rfl rfl rfl hd_X3_kindOf ⟨Nat.le_of_ble_eq_true rfl, Nat.le_of_ble_eq_true rfl⟩) fr hw hK hA hZo hZ (ci := 3) rfl rfl rfl rfl hl.1 rfl (Nat.le_of_ble_eq_true rfl) dX3_tell_95 ⟨Nat.zero_le _, Nat.zero_le _⟩) fr hw hA (fun H locs hw => ?_)
      obtain ⟨e0_, e1_⟩ := sm2 hf
      exact hret _ _ _ _ _ (by rw [← e1_]; exact hw) e0_ (Or.inl rfl) dX3_tell_98
    have hf := if_f c26 hf
    refine lv_tableOut (tgt := 99) hx hb dX3_tell_1 (w_out (n := 7) (by decide) (fun k hk => ?_)) (by decide) ?_
    · match k, hk with
      | 0, _ => exact c1
      | 1, _ => exact c6
      | 2, _ => exact c11
      | 3, _ => exact c16
      | 4, _ => exact c19
      | 5, _ => exact c22
      | 6, _ => exact c26
      | k + 7, hk => omega
    refine lv_bipush (v := (-102)) hx hb dX3_tell_99 (by decide) ?_
    obtain ⟨e0_, e1_⟩ := sm2 hf
    exact hret _ _ _ _ _ (by rw [← e1_]; exact hw) e0_ (Or.inl rfl) dX3_tell_101
  rw [hH, hlc] at goal
  exact goal
abbrev rmX3_areCrossing : Room := { frames := 1, cells := 0, slots := 0, locals := 20 }
theorem hd_X3_areCrossing : yX3_areCrossing.cls = RX3 ∧ yX3_areCrossing.cls ≠ "java/lang/invoke/MethodHandle" ∧ yX3_areCrossing.cls ≠ "java/lang/invoke/VarHandle" ∧ (parseMethodDescriptor yX3_areCrossing.desc).map (fun d => d.parameters.length) = some 2 := by decide +kernel
set_option maxHeartbeats 4000000 in
set_option maxRecDepth 100000 in
theorem k_X3_areCrossing (l : Launch) (D : va_G) (cA : ClassId) (tx ty : Nat) (o : Nat → Nat) (oR : St) (oT : St) (oB : St) (oC : St) (oG : St) (a1 : Int32) (a2 : Int32) (r : Int32) (hf : f_X3_areCrossing oR a1 a2 = some (r)) : Mi l yX3_areCrossing wsX3_areCrossing rmX3_areCrossing D cA (z_X tx ty) [.ref (o 17), .int a1, .int a2] (wX3 o cA oR oT oB oC oG) r (wX3 o cA oR oT oB oC oG) := by
  refine Mi.of (cc := cX3_areCrossing) (maxL := 8) (ret := (some .boolean)) (plainFor_of_name (by decide)) rfl (Nat.le_of_ble_eq_true rfl) (Or.inr rfl) ?_
  intro p e s m below meth c A Q hx hb hml hown hts hK hA hZ hret ls hl hw
  replace hown : s.vm.findClass RX3 = some m.cls := hown
  have hl : lv_has ls 8 [(0, .ref (o 17)), (1, .int a1), (2, .int a2)] := hl
  have hZo := z_X_ok tx ty
  have hi3 : ∀ w ∈ wsX30, w ∈ wsX3_areCrossing := fun w h => List.mem_cons_of_mem _ (List.mem_append_right _ h)
  have q0 := hts (.fieldLink RX3 9 "ArcRings$Rings" "keys" "[I") (by decide +kernel)
  have q1 := hts (.initialized RX6) (by decide +kernel)
  have q2 := hts (.static yX6_keyX) (by decide +kernel)
  have q3 := hts (.static yX6_keyY) (by decide +kernel)
  have q4 := hts (.static yX6_keyRadius) (by decide +kernel)
  unfold f_X3_areCrossing at hf
  obtain ⟨H, hH⟩ : ∃ H, H = s.heap := ⟨_, rfl⟩
  obtain ⟨locs, hlc⟩ : ∃ locs : List Loc, locs = [] := ⟨_, rfl⟩
  have hw : Wd D A s.heap H locs (wX3 o cA oR oT oB oC oG) := by rw [hH, hlc]; exact hw
  have goal : W p l e rmX3_areCrossing s m ([.ref (o 17), .int a1, .int a2] : List Value).toArray below meth c H locs 0 0 Q (F0 m 0 ls []) := by
    clear hH hlc
    refine lv_aload_n hx hb dX3_areCrossing_0 rfl (lv_at hl 0 rfl) ?_
    refine w_get hx hb hts hi3 hown hK hw 0 rfl rfl 5 (by decide) q0 rfl (v := .ref (o 18)) rfl dX3_areCrossing_1 ?_
    refine lv_iload_n hx hb dX3_areCrossing_4 rfl (lv_at hl 1 rfl) ?_
    obtain ⟨x1, g2, hf⟩ := bn1_e hf
    refine w_ald hx hb hK hw 1 rfl g2 dX3_areCrossing_5 ?_
    obtain ⟨x3, g4, hf⟩ := bn1_e hf
    have fr := fr_X3_S o cA oR oT oB oC oG
    refine go_i (run_n (As := [.int x1]) (rest := []) ⟨hx, hb, hml, hown, hts⟩ (k_X6_keyX l D cA x1 x3 g4 H.size) ⟨va_cnB 1 hts gX3_areCrossing_X6_keyX_n109 rfl rfl rfl (hZ.2.2.2.2.2 (RX3, 109, yX6_keyX) (List.mem_of_getElem? (i := 10) rfl)) q1 hd_X6_keyX ⟨Nat.le_of_ble_eq_true rfl, Nat.le_of_ble_eq_true rfl⟩, q2, trivial⟩ fr hw hK hA rfl hl.1 rfl (Nat.le_of_ble_eq_true rfl) dX3_areCrossing_6 ⟨Nat.zero_le _, Nat.zero_le _⟩) fr hw hA (fun H locs hw => ?_)
    refine lv_aload_n hx hb dX3_areCrossing_9 rfl (lv_at hl 0 rfl) ?_
    refine w_get hx hb hts hi3 hown hK hw 0 rfl rfl 5 (by decide) q0 rfl (v := .ref (o 18)) rfl dX3_areCrossing_10 ?_
    refine lv_iload_n hx hb dX3_areCrossing_13 rfl (lv_at hl 2 rfl) ?_
    obtain ⟨x5, g6, hf⟩ := bn1_e hf
    refine w_ald hx hb hK hw 1 rfl g6 dX3_areCrossing_14 ?_
    obtain ⟨x7, g8, hf⟩ := bn1_e hf
    have fr := fr_X3_S o cA oR oT oB oC oG
    refine go_i (run_n (As := [.int x5]) (rest := [.int x3]) ⟨hx, hb, hml, hown, hts⟩ (k_X6_keyX l D cA x5 x7 g8 H.size) ⟨va_cnB 1 hts gX3_areCrossing_X6_keyX_n109 rfl rfl rfl (hZ.2.2.2.2.2 (RX3, 109, yX6_keyX) (List.mem_of_getElem? (i := 10) rfl)) q1 hd_X6_keyX ⟨Nat.le_of_ble_eq_true rfl, Nat.le_of_ble_eq_true rfl⟩, q2, trivial⟩ fr hw hK hA rfl hl.1 rfl (Nat.le_of_ble_eq_true rfl) dX3_areCrossing_15 ⟨Nat.zero_le _, Nat.zero_le _⟩) fr hw hA (fun H locs hw => ?_)
    refine lv_isub hx hb dX3_areCrossing_18 ?_
    refine lv_istore_n (lv' := [(3, .int (x3 - x7)), (0, .ref (o 17)), (1, .int a1), (2, .int a2)]) hx hb dX3_areCrossing_19 rfl hl (by decide) rfl (fun ls hl => ?_)
    refine lv_aload_n hx hb dX3_areCrossing_20 rfl (lv_at hl 1 rfl) ?_
    refine w_get hx hb hts hi3 hown hK hw 0 rfl rfl 5 (by decide) q0 rfl (v := .ref (o 18)) rfl dX3_areCrossing_21 ?_
    refine lv_iload_n hx hb dX3_areCrossing_24 rfl (lv_at hl 2 rfl) ?_
    obtain ⟨x9, g10, hf⟩ := bn1_e hf
    refine w_ald hx hb hK hw 1 rfl g10 dX3_areCrossing_25 ?_
    obtain ⟨x11, g12, hf⟩ := bn1_e hf
    have fr := fr_X3_S o cA oR oT oB oC oG
    refine go_i (run_n (As := [.int x9]) (rest := []) ⟨hx, hb, hml, hown, hts⟩ (k_X6_keyY l D cA x9 x11 g12 H.size) ⟨va_cnB 1 hts gX3_areCrossing_X6_keyY_n112 rfl rfl rfl (hZ.2.2.2.2.2 (RX3, 112, yX6_keyY) (List.mem_of_getElem? (i := 11) rfl)) q1 hd_X6_keyY ⟨Nat.le_of_ble_eq_true rfl, Nat.le_of_ble_eq_true rfl⟩, q3, trivial⟩ fr hw hK hA rfl hl.1 rfl (Nat.le_of_ble_eq_true rfl) dX3_areCrossing_26 ⟨Nat.zero_le _, Nat.zero_le _⟩) fr hw hA (fun H locs hw => ?_)
    refine lv_aload_n hx hb dX3_areCrossing_29 rfl (lv_at hl 1 rfl) ?_
    refine w_get hx hb hts hi3 hown hK hw 0 rfl rfl 5 (by decide) q0 rfl (v := .ref (o 18)) rfl dX3_areCrossing_30 ?_
    refine lv_iload_n hx hb dX3_areCrossing_33 rfl (lv_at hl 3 rfl) ?_
    obtain ⟨x13, g14, hf⟩ := bn1_e hf
    refine w_ald hx hb hK hw 1 rfl g14 dX3_areCrossing_34 ?_
    obtain ⟨x15, g16, hf⟩ := bn1_e hf
    have fr := fr_X3_S o cA oR oT oB oC oG
    refine go_i (run_n (As := [.int x13]) (rest := [.int x11]) ⟨hx, hb, hml, hown, hts⟩ (k_X6_keyY l D cA x13 x15 g16 H.size) ⟨va_cnB 1 hts gX3_areCrossing_X6_keyY_n112 rfl rfl rfl (hZ.2.2.2.2.2 (RX3, 112, yX6_keyY) (List.mem_of_getElem? (i := 11) rfl)) q1 hd_X6_keyY ⟨Nat.le_of_ble_eq_true rfl, Nat.le_of_ble_eq_true rfl⟩, q3, trivial⟩ fr hw hK hA rfl hl.1 rfl (Nat.le_of_ble_eq_true rfl) dX3_areCrossing_35 ⟨Nat.zero_le _, Nat.zero_le _⟩) fr hw hA (fun H locs hw => ?_)
    refine lv_isub hx hb dX3_areCrossing_38 ?_
    refine lv_istore (lv' := [(4, .int (x11 - x15)), (3, .int (x3 - x7)), (0, .ref (o 17)), (1, .int a1), (2, .int a2)]) hx hb dX3_areCrossing_39 hl (by decide) rfl (fun ls hl => ?_)
    refine lv_aload_n hx hb dX3_areCrossing_41 rfl (lv_at hl 2 rfl) ?_
    refine w_get hx hb hts hi3 hown hK hw 0 rfl rfl 5 (by decide) q0 rfl (v := .ref (o 18)) rfl dX3_areCrossing_42 ?_
    refine lv_iload_n hx hb dX3_areCrossing_45 rfl (lv_at hl 3 rfl) ?_
    obtain ⟨x17, g18, hf⟩ := bn1_e hf
    refine w_ald hx hb hK hw 1 rfl g18 dX3_areCrossing_46 ?_
    obtain ⟨x19, g20, hf⟩ := bn1_e hf
    have fr := fr_X3_S o cA oR oT oB oC oG
    refine go_i (run_n (As := [.int x17]) (rest := []) ⟨hx, hb, hml, hown, hts⟩ (k_X6_keyRadius l D cA x17 x19 g20 H.size) ⟨va_cnB 1 hts gX3_areCrossing_X6_keyRadius_n115 rfl rfl rfl (hZ.2.2.2.2.2 (RX3, 115, yX6_keyRadius) (List.mem_of_getElem? (i := 12) rfl)) q1 hd_X6_keyRadius ⟨Nat.le_of_ble_eq_true rfl, Nat.le_of_ble_eq_true rfl⟩, q4, trivial⟩ fr hw hK hA rfl hl.1 rfl (Nat.le_of_ble_eq_true rfl) dX3_areCrossing_47 ⟨Nat.zero_le _, Nat.zero_le _⟩) fr hw hA (fun H locs hw => ?_)
    refine lv_aload_n hx hb dX3_areCrossing_50 rfl (lv_at hl 2 rfl) ?_
    refine w_get hx hb hts hi3 hown hK hw 0 rfl rfl 5 (by decide) q0 rfl (v := .ref (o 18)) rfl dX3_areCrossing_51 ?_
    refine lv_iload_n hx hb dX3_areCrossing_54 rfl (lv_at hl 4 rfl) ?_
    obtain ⟨x21, g22, hf⟩ := bn1_e hf
    refine w_ald hx hb hK hw 1 rfl g22 dX3_areCrossing_55 ?_
    obtain ⟨x23, g24, hf⟩ := bn1_e hf
    have fr := fr_X3_S o cA oR oT oB oC oG
    refine go_i (run_n (As := [.int x21]) (rest := [.int x19]) ⟨hx, hb, hml, hown, hts⟩ (k_X6_keyRadius l D cA x21 x23 g24 H.size) ⟨va_cnB 1 hts gX3_areCrossing_X6_keyRadius_n115 rfl rfl rfl (hZ.2.2.2.2.2 (RX3, 115, yX6_keyRadius) (List.mem_of_getElem? (i := 12) rfl)) q1 hd_X6_keyRadius ⟨Nat.le_of_ble_eq_true rfl, Nat.le_of_ble_eq_true rfl⟩, q4, trivial⟩ fr hw hK hA rfl hl.1 rfl (Nat.le_of_ble_eq_true rfl) dX3_areCrossing_56 ⟨Nat.zero_le _, Nat.zero_le _⟩) fr hw hA (fun H locs hw => ?_)
    refine lv_iadd hx hb dX3_areCrossing_59 ?_
    refine lv_iconst (v := 1) hx hb dX3_areCrossing_60 (by decide) ?_
    refine lv_iadd hx hb dX3_areCrossing_61 ?_
    refine lv_istore (lv' := [(5, .int ((x19 + x23) + 1)), (4, .int (x11 - x15)), (3, .int (x3 - x7)), (0, .ref (o 17)), (1, .int a1), (2, .int a2)]) hx hb dX3_areCrossing_62 hl (by decide) rfl (fun ls hl => ?_)
    refine lv_aload_n hx hb dX3_areCrossing_64 rfl (lv_at hl 3 rfl) ?_
    refine w_get hx hb hts hi3 hown hK hw 0 rfl rfl 5 (by decide) q0 rfl (v := .ref (o 18)) rfl dX3_areCrossing_65 ?_
    refine lv_iload_n hx hb dX3_areCrossing_68 rfl (lv_at hl 4 rfl) ?_
    obtain ⟨x25, g26, hf⟩ := bn1_e hf
    refine w_ald hx hb hK hw 1 rfl g26 dX3_areCrossing_69 ?_
    obtain ⟨x27, g28, hf⟩ := bn1_e hf
    have fr := fr_X3_S o cA oR oT oB oC oG
    refine go_i (run_n (As := [.int x25]) (rest := []) ⟨hx, hb, hml, hown, hts⟩ (k_X6_keyRadius l D cA x25 x27 g28 H.size) ⟨va_cnB 1 hts gX3_areCrossing_X6_keyRadius_n115 rfl rfl rfl (hZ.2.2.2.2.2 (RX3, 115, yX6_keyRadius) (List.mem_of_getElem? (i := 12) rfl)) q1 hd_X6_keyRadius ⟨Nat.le_of_ble_eq_true rfl, Nat.le_of_ble_eq_true rfl⟩, q4, trivial⟩ fr hw hK hA rfl hl.1 rfl (Nat.le_of_ble_eq_true rfl) dX3_areCrossing_70 ⟨Nat.zero_le _, Nat.zero_le _⟩) fr hw hA (fun H locs hw => ?_)
    refine lv_aload_n hx hb dX3_areCrossing_73 rfl (lv_at hl 3 rfl) ?_
    refine w_get hx hb hts hi3 hown hK hw 0 rfl rfl 5 (by decide) q0 rfl (v := .ref (o 18)) rfl dX3_areCrossing_74 ?_
    refine lv_iload_n hx hb dX3_areCrossing_77 rfl (lv_at hl 5 rfl) ?_
    obtain ⟨x29, g30, hf⟩ := bn1_e hf
    refine w_ald hx hb hK hw 1 rfl g30 dX3_areCrossing_78 ?_
    obtain ⟨x31, g32, hf⟩ := bn1_e hf
    have fr := fr_X3_S o cA oR oT oB oC oG
    refine go_i (run_n (As := [.int x29]) (rest := [.int x27]) ⟨hx, hb, hml, hown, hts⟩ (k_X6_keyRadius l D cA x29 x31 g32 H.size) ⟨va_cnB 1 hts gX3_areCrossing_X6_keyRadius_n115 rfl rfl rfl (hZ.2.2.2.2.2 (RX3, 115, yX6_keyRadius) (List.mem_of_getElem? (i := 12) rfl)) q1 hd_X6_keyRadius ⟨Nat.le_of_ble_eq_true rfl, Nat.le_of_ble_eq_true rfl⟩, q4, trivial⟩ fr hw hK hA rfl hl.1 rfl (Nat.le_of_ble_eq_true rfl) dX3_areCrossing_79 ⟨Nat.zero_le _, Nat.zero_le _⟩) fr hw hA (fun H locs hw => ?_)
    refine lv_isub hx hb dX3_areCrossing_82 ?_
    refine lv_istore (lv' := [(6, .int (x27 - x31)), (5, .int ((x19 + x23) + 1)), (4, .int (x11 - x15)), (3, .int (x3 - x7)), (0, .ref (o 17)), (1, .int a1), (2, .int a2)]) hx hb dX3_areCrossing_83 hl (by decide) rfl (fun ls hl => ?_)
    refine lv_iload_n hx hb dX3_areCrossing_85 rfl (lv_at hl 3 rfl) ?_
    refine lv_iload_n hx hb dX3_areCrossing_86 rfl (lv_at hl 3 rfl) ?_
    refine lv_imul hx hb dX3_areCrossing_87 ?_
    refine lv_iload hx hb dX3_areCrossing_88 (lv_at hl 2 rfl) ?_
    refine lv_iload hx hb dX3_areCrossing_90 (lv_at hl 2 rfl) ?_
    refine lv_imul hx hb dX3_areCrossing_92 ?_
    refine lv_iadd hx hb dX3_areCrossing_93 ?_
    obtain ⟨y33, e34, hf⟩ := bn1_e hf
    refine w_nmi (sm1 e34) ?_
    refine lv_istore (lv' := [(7, .int y33), (6, .int (x27 - x31)), (5, .int ((x19 + x23) + 1)), (4, .int (x11 - x15)), (3, .int (x3 - x7)), (0, .ref (o 17)), (1, .int a1), (2, .int a2)]) hx hb dX3_areCrossing_94 hl (by decide) rfl (fun ls hl => ?_)
    refine lv_iload hx hb dX3_areCrossing_96 (lv_at hl 0 rfl) ?_
    refine lv_iload hx hb dX3_areCrossing_98 (lv_at hl 2 rfl) ?_
    refine lv_iload hx hb dX3_areCrossing_100 (lv_at hl 2 rfl) ?_
    refine lv_imul hx hb dX3_areCrossing_102 ?_
    refine lv_icmp_gt (tgt := 120) hx hb dX3_areCrossing_103 (by decide) (fun c35 => ?_) (fun c35 => ?_)
    · have hf := if_t c35 hf
      refine lv_iconst (v := 0) hx hb dX3_areCrossing_120 (by decide) ?_
      have e0_ := sm1 hf
      exact hret _ _ _ _ _ hw e0_ (Or.inr (Or.inl rfl)) dX3_areCrossing_121
    · have hf := if_f c35 hf
      refine lv_iload hx hb dX3_areCrossing_106 (lv_at hl 0 rfl) ?_
      refine lv_iload hx hb dX3_areCrossing_108 (lv_at hl 1 rfl) ?_
      refine lv_iload hx hb dX3_areCrossing_110 (lv_at hl 1 rfl) ?_
      refine lv_imul hx hb dX3_areCrossing_112 ?_
      refine lv_icmp_lt (tgt := 120) hx hb dX3_areCrossing_113 (by decide) (fun c36 => ?_) (fun c36 => ?_)
      · have hf := if_t c36 hf
        refine lv_iconst (v := 0) hx hb dX3_areCrossing_120 (by decide) ?_
        have e0_ := sm1 hf
        exact hret _ _ _ _ _ hw e0_ (Or.inr (Or.inl rfl)) dX3_areCrossing_121
      · have hf := if_f c36 hf
        refine lv_iconst (v := 1) hx hb dX3_areCrossing_116 (by decide) ?_
        refine lv_goto (tgt := 121) hx hb dX3_areCrossing_117 (by decide) ?_
        have e0_ := sm1 hf
        exact hret _ _ _ _ _ hw e0_ (Or.inr (Or.inr rfl)) dX3_areCrossing_121
  rw [hH, hlc] at goal
  exact goal
abbrev rmX3_ownedDots : Room := { frames := 2, cells := 0, slots := 0, locals := 41 }
theorem hd_X3_ownedDots : yX3_ownedDots.cls = RX3 ∧ yX3_ownedDots.cls ≠ "java/lang/invoke/MethodHandle" ∧ yX3_ownedDots.cls ≠ "java/lang/invoke/VarHandle" ∧ (parseMethodDescriptor yX3_ownedDots.desc).map (fun d => d.parameters.length) = some 0 := by decide +kernel
set_option maxHeartbeats 4000000 in
set_option maxRecDepth 100000 in
theorem k_X3_ownedDots (l : Launch) (D : va_G) (cA : ClassId) (tx ty : Nat) (o : Nat → Nat) (oR : St) (oT : St) (oB : St) (oC : St) (oG : St) (r : Int32) (hf : f_X3_ownedDots oR = some (r)) : Mi l yX3_ownedDots wsX3_ownedDots rmX3_ownedDots D cA (z_X tx ty) [.ref (o 17)] (wX3 o cA oR oT oB oC oG) r (wX3 o cA oR oT oB oC oG) := by
  refine Mi.of (cc := cX3_ownedDots) (maxL := 3) (ret := (some .int)) (plainFor_of_name (by decide)) rfl (Nat.le_of_ble_eq_true rfl) (Or.inl rfl) ?_
  intro p e s m below meth c A Q hx hb hml hown hts hK hA hZ hret ls hl hw
  replace hown : s.vm.findClass RX3 = some m.cls := hown
  have hl : lv_has ls 3 [(0, .ref (o 17))] := hl
  have hZo := z_X_ok tx ty
  have hi3 : ∀ w ∈ wsX30, w ∈ wsX3_ownedDots := fun w h => List.mem_cons_of_mem _ (List.mem_append_right _ h)
  have q0 := hts (.fieldLink RX3 34 "ArcRings$Rings" "size" "I") (by decide +kernel)
  have h_L4 : ∀ (n : Nat) (v1 : Int32) (v2 : Int32), f_X3_ownedDots_L4 oR n v1 v2 = some (r) → ∀ (H : Heap) (locs : List Loc) (ls : Array Slot), Wd D A s.heap H locs (wX3 o cA oR oT oB oC oG) → lv_has ls 3 [(0, .ref (o 17)), (1, .int v1), (2, .int v2)] → W p l e rmX3_ownedDots s m ([.ref (o 17)] : List Value).toArray below meth c H locs 0 0 Q (F0 m 4 ls []) := by
    intro n
    induction n with
    | zero =>
      intro v1 v2 hf
      have hf : none = some (r) := hf
      cases hf
    | succ n ih =>
      intro v1 v2 hf H locs ls hw hl
      have hf := (f_X3_ownedDots_L4_s oR n v1 v2).symm.trans hf
      refine lv_iload_n hx hb dX3_ownedDots_4 rfl (lv_at hl 2 rfl) ?_
      refine lv_aload_n hx hb dX3_ownedDots_5 rfl (lv_at hl 0 rfl) ?_
      refine w_get hx hb hts hi3 hown hK hw 0 rfl rfl 4 (by decide) q0 rfl (v := .int (oR.1 4)) rfl dX3_ownedDots_6 ?_
      refine lv_icmp_ge (tgt := 26) hx hb dX3_ownedDots_9 (by decide) (fun c1 => ?_) (fun c1 => ?_)
      · have hf := if_t c1 hf
        refine lv_iload_n hx hb dX3_ownedDots_26 rfl (lv_at hl 1 rfl) ?_
        have e0_ := sm1 hf
        exact hret _ _ _ _ _ hw e0_ (Or.inl rfl) dX3_ownedDots_27
      · have hf := if_f c1 hf
        refine lv_iload_n hx hb dX3_ownedDots_12 rfl (lv_at hl 1 rfl) ?_
        refine lv_aload_n hx hb dX3_ownedDots_13 rfl (lv_at hl 0 rfl) ?_
        refine lv_iload_n hx hb dX3_ownedDots_14 rfl (lv_at hl 2 rfl) ?_
        obtain ⟨x2, g3, hf⟩ := bn1_e hf
        have fr := fr_X3_X3_oR_oT_oB_oC_oG o cA oR oT oB oC oG oR oT oB oC oG
        refine go_i (run_v (As := [.int v2]) (rest := [.int v1]) ⟨hx, hb, hml, hown, hts⟩ (k_X3_ownCount l D cA tx ty o oR oT oB oC oG v2 x2 g3 H.size) (cwV 1 hts gX3_ownedDots_X3_ownCount rfl rfl rfl hd_X3_ownCount ⟨Nat.le_of_ble_eq_true rfl, Nat.le_of_ble_eq_true rfl⟩) fr hw hK hA hZo hZ (ci := 3) rfl rfl rfl rfl hl.1 rfl (Nat.le_of_ble_eq_true rfl) dX3_ownedDots_15 ⟨Nat.zero_le _, Nat.zero_le _⟩) fr hw hA (fun H locs hw => ?_)
        refine lv_iadd hx hb dX3_ownedDots_18 ?_
        refine lv_istore_n (lv' := [(1, .int (v1 + x2)), (0, .ref (o 17)), (2, .int v2)]) hx hb dX3_ownedDots_19 rfl hl (by decide) rfl (fun ls hl => ?_)
        refine lv_iinc (v := v2 + 1) (lv' := [(2, .int (v2 + 1)), (1, .int (v1 + x2)), (0, .ref (o 17))]) hx hb dX3_ownedDots_20 hl (k := 2) rfl (by rfl) (by decide) rfl (fun ls hl => ?_)
        refine lv_goto (tgt := 4) hx hb dX3_ownedDots_23 (by decide) ?_
        exact ih (v1 + x2) (v2 + 1) hf H locs ls hw (lv_sub hl [2, 1, 0] rfl)
  unfold f_X3_ownedDots at hf
  obtain ⟨H, hH⟩ : ∃ H, H = s.heap := ⟨_, rfl⟩
  obtain ⟨locs, hlc⟩ : ∃ locs : List Loc, locs = [] := ⟨_, rfl⟩
  have hw : Wd D A s.heap H locs (wX3 o cA oR oT oB oC oG) := by rw [hH, hlc]; exact hw
  have goal : W p l e rmX3_ownedDots s m ([.ref (o 17)] : List Value).toArray below meth c H locs 0 0 Q (F0 m 0 ls []) := by
    clear hH hlc
    refine lv_iconst (v := 0) hx hb dX3_ownedDots_0 (by decide) ?_
    refine lv_istore_n (lv' := [(1, .int 0), (0, .ref (o 17))]) hx hb dX3_ownedDots_1 rfl hl (by decide) rfl (fun ls hl => ?_)
    refine lv_iconst (v := 0) hx hb dX3_ownedDots_2 (by decide) ?_
    refine lv_istore_n (lv' := [(2, .int 0), (1, .int 0), (0, .ref (o 17))]) hx hb dX3_ownedDots_3 rfl hl (by decide) rfl (fun ls hl => ?_)
    exact h_L4  _ 0 0 hf H locs ls hw (lv_sub hl [2, 1, 0] rfl)
  rw [hH, hlc] at goal
  exact goal
