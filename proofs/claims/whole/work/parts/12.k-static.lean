abbrev rmX2_valueOf : Room := { frames := 0, cells := 0, slots := 0, locals := 0 }
theorem hd_X2_valueOf : yX2_valueOf.cls ≠ "java/lang/invoke/MethodHandle" ∧ yX2_valueOf.cls ≠ "java/lang/invoke/VarHandle" ∧ (parseMethodDescriptor yX2_valueOf.desc).map (fun d => d.parameters.length) = some 1 := by decide +kernel
set_option maxHeartbeats 4000000 in
set_option maxRecDepth 100000 in
theorem k_X2_valueOf (l : Launch) (D : va_G) (cA : ClassId) (a0 : Int32) (r : Int32) (hf : f_X2_valueOf a0 = some (r)) : Mi l yX2_valueOf wsX2_valueOf rmX2_valueOf D cA z_0 [.int a0] [] r [] := by
  refine Mi.of (cc := cX2_valueOf) (maxL := 1) (ret := (some .int)) (plainFor_of_name (by decide)) rfl (Nat.le_of_ble_eq_true rfl) (Or.inl rfl) ?_
  intro p e s m below meth c A Q hx hb hml hown hts hK hA hZ hret ls hl hw
  replace hown : s.vm.findClass RX2 = some m.cls := hown
  have hl : lv_has ls 1 [(0, .int a0)] := hl
  have hZo := z_0_ok
  unfold f_X2_valueOf at hf
  obtain ⟨H, hH⟩ : ∃ H, H = s.heap := ⟨_, rfl⟩
  obtain ⟨locs, hlc⟩ : ∃ locs : List Loc, locs = [] := ⟨_, rfl⟩
  have hw : Wd D A s.heap H locs [] := by rw [hH, hlc]; exact hw
  have goal : W p l e rmX2_valueOf s m ([.int a0] : List Value).toArray below meth c H locs 0 0 Q (F0 m 0 ls []) := by
    clear hH hlc
    refine lv_iload_n hx hb dX2_valueOf_0 rfl (lv_at hl 0 rfl) ?_
    refine lv_bipush (v := 48) hx hb dX2_valueOf_1 (by decide) ?_
    refine lv_icmp_lt (tgt := 17) hx hb dX2_valueOf_3 (by decide) (fun c1 => ?_) (fun c1 => ?_)
    · have hf := if_t c1 hf
      refine lv_iload_n hx hb dX2_valueOf_17 rfl (lv_at hl 0 rfl) ?_
      refine lv_bipush (v := 97) hx hb dX2_valueOf_18 (by decide) ?_
      refine lv_icmp_lt (tgt := 39) hx hb dX2_valueOf_20 (by decide) (fun c2 => ?_) (fun c2 => ?_)
      · have hf := if_t c2 hf
        refine lv_iconst (v := (-1)) hx hb dX2_valueOf_39 (by decide) ?_
        have e0_ := sm1 hf
        exact hret _ _ _ _ _ hw e0_ (Or.inl rfl) dX2_valueOf_40
      · have hf := if_f c2 hf
        refine lv_iload_n hx hb dX2_valueOf_23 rfl (lv_at hl 0 rfl) ?_
        refine lv_bipush (v := 117) hx hb dX2_valueOf_24 (by decide) ?_
        refine lv_icmp_gt (tgt := 39) hx hb dX2_valueOf_26 (by decide) (fun c3 => ?_) (fun c3 => ?_)
        · have hf := if_t c3 hf
          refine lv_iconst (v := (-1)) hx hb dX2_valueOf_39 (by decide) ?_
          have e0_ := sm1 hf
          exact hret _ _ _ _ _ hw e0_ (Or.inl rfl) dX2_valueOf_40
        · have hf := if_f c3 hf
          refine lv_iload_n hx hb dX2_valueOf_29 rfl (lv_at hl 0 rfl) ?_
          refine lv_bipush (v := 97) hx hb dX2_valueOf_30 (by decide) ?_
          refine lv_isub hx hb dX2_valueOf_32 ?_
          refine lv_bipush (v := 10) hx hb dX2_valueOf_33 (by decide) ?_
          refine lv_iadd hx hb dX2_valueOf_35 ?_
          refine lv_goto (tgt := 40) hx hb dX2_valueOf_36 (by decide) ?_
          have e0_ := sm1 hf
          exact hret _ _ _ _ _ hw e0_ (Or.inl rfl) dX2_valueOf_40
    · have hf := if_f c1 hf
      refine lv_iload_n hx hb dX2_valueOf_6 rfl (lv_at hl 0 rfl) ?_
      refine lv_bipush (v := 57) hx hb dX2_valueOf_7 (by decide) ?_
      refine lv_icmp_gt (tgt := 17) hx hb dX2_valueOf_9 (by decide) (fun c4 => ?_) (fun c4 => ?_)
      · have hf := if_t c4 hf
        refine lv_iload_n hx hb dX2_valueOf_17 rfl (lv_at hl 0 rfl) ?_
        refine lv_bipush (v := 97) hx hb dX2_valueOf_18 (by decide) ?_
        refine lv_icmp_lt (tgt := 39) hx hb dX2_valueOf_20 (by decide) (fun c5 => ?_) (fun c5 => ?_)
        · have hf := if_t c5 hf
          refine lv_iconst (v := (-1)) hx hb dX2_valueOf_39 (by decide) ?_
          have e0_ := sm1 hf
          exact hret _ _ _ _ _ hw e0_ (Or.inl rfl) dX2_valueOf_40
        · have hf := if_f c5 hf
          refine lv_iload_n hx hb dX2_valueOf_23 rfl (lv_at hl 0 rfl) ?_
          refine lv_bipush (v := 117) hx hb dX2_valueOf_24 (by decide) ?_
          refine lv_icmp_gt (tgt := 39) hx hb dX2_valueOf_26 (by decide) (fun c6 => ?_) (fun c6 => ?_)
          · have hf := if_t c6 hf
            refine lv_iconst (v := (-1)) hx hb dX2_valueOf_39 (by decide) ?_
            have e0_ := sm1 hf
            exact hret _ _ _ _ _ hw e0_ (Or.inl rfl) dX2_valueOf_40
          · have hf := if_f c6 hf
            refine lv_iload_n hx hb dX2_valueOf_29 rfl (lv_at hl 0 rfl) ?_
            refine lv_bipush (v := 97) hx hb dX2_valueOf_30 (by decide) ?_
            refine lv_isub hx hb dX2_valueOf_32 ?_
            refine lv_bipush (v := 10) hx hb dX2_valueOf_33 (by decide) ?_
            refine lv_iadd hx hb dX2_valueOf_35 ?_
            refine lv_goto (tgt := 40) hx hb dX2_valueOf_36 (by decide) ?_
            have e0_ := sm1 hf
            exact hret _ _ _ _ _ hw e0_ (Or.inl rfl) dX2_valueOf_40
      · have hf := if_f c4 hf
        refine lv_iload_n hx hb dX2_valueOf_12 rfl (lv_at hl 0 rfl) ?_
        refine lv_bipush (v := 48) hx hb dX2_valueOf_13 (by decide) ?_
        refine lv_isub hx hb dX2_valueOf_15 ?_
        have e0_ := sm1 hf
        exact hret _ _ _ _ _ hw e0_ (Or.inl rfl) dX2_valueOf_16
  rw [hH, hlc] at goal
  exact goal
abbrev rmX0_digitAt : Room := { frames := 0, cells := 0, slots := 0, locals := 0 }
theorem hd_X0_digitAt : yX0_digitAt.cls ≠ "java/lang/invoke/MethodHandle" ∧ yX0_digitAt.cls ≠ "java/lang/invoke/VarHandle" ∧ (parseMethodDescriptor yX0_digitAt.desc).map (fun d => d.parameters.length) = some 2 := by decide +kernel
set_option maxHeartbeats 4000000 in
set_option maxRecDepth 100000 in
theorem k_X0_digitAt (l : Launch) (D : va_G) (cA : ClassId) (a0 : Int32) (a1 : Int32) (r : Int32) (hf : f_X0_digitAt a0 a1 = some (r)) : Mi l yX0_digitAt wsX0_digitAt rmX0_digitAt D cA z_0 [.int a0, .int a1] [] r [] := by
  refine Mi.of (cc := cX0_digitAt) (maxL := 2) (ret := (some .int)) (plainFor_of_name (by decide)) rfl (Nat.le_of_ble_eq_true rfl) (Or.inl rfl) ?_
  intro p e s m below meth c A Q hx hb hml hown hts hK hA hZ hret ls hl hw
  replace hown : s.vm.findClass RX0 = some m.cls := hown
  have hl : lv_has ls 2 [(0, .int a0), (1, .int a1)] := hl
  have hZo := z_0_ok
  unfold f_X0_digitAt at hf
  obtain ⟨H, hH⟩ : ∃ H, H = s.heap := ⟨_, rfl⟩
  obtain ⟨locs, hlc⟩ : ∃ locs : List Loc, locs = [] := ⟨_, rfl⟩
  have hw : Wd D A s.heap H locs [] := by rw [hH, hlc]; exact hw
  have goal : W p l e rmX0_digitAt s m ([.int a0, .int a1] : List Value).toArray below meth c H locs 0 0 Q (F0 m 0 ls []) := by
    clear hH hlc
    refine lv_bipush (v := 48) hx hb dX0_digitAt_0 (by decide) ?_
    refine lv_iload_n hx hb dX0_digitAt_2 rfl (lv_at hl 1 rfl) ?_
    refine lv_if_ne (tgt := 13) hx hb dX0_digitAt_3 (by decide) (fun c1 => ?_) (fun c1 => ?_)
    · have hf := if_f c1 hf
      refine lv_iload_n hx hb dX0_digitAt_13 rfl (lv_at hl 0 rfl) ?_
      refine lv_bipush (v := 10) hx hb dX0_digitAt_14 (by decide) ?_
      refine lv_idiv hx hb dX0_digitAt_16 (by decide) ?_
      refine lv_iadd hx hb dX0_digitAt_17 ?_
      have e0_ := sm1 hf
      exact hret _ _ _ _ _ hw e0_ (Or.inl rfl) dX0_digitAt_18
    · have hf := if_t c1 hf
      refine lv_iload_n hx hb dX0_digitAt_6 rfl (lv_at hl 0 rfl) ?_
      refine lv_bipush (v := 10) hx hb dX0_digitAt_7 (by decide) ?_
      refine lv_irem hx hb dX0_digitAt_9 (by decide) ?_
      refine lv_goto (tgt := 17) hx hb dX0_digitAt_10 (by decide) ?_
      refine lv_iadd hx hb dX0_digitAt_17 ?_
      have e0_ := sm1 hf
      exact hret _ _ _ _ _ hw e0_ (Or.inl rfl) dX0_digitAt_18
  rw [hH, hlc] at goal
  exact goal
abbrev rmX0_signOf : Room := { frames := 0, cells := 0, slots := 0, locals := 0 }
theorem hd_X0_signOf : yX0_signOf.cls ≠ "java/lang/invoke/MethodHandle" ∧ yX0_signOf.cls ≠ "java/lang/invoke/VarHandle" ∧ (parseMethodDescriptor yX0_signOf.desc).map (fun d => d.parameters.length) = some 1 := by decide +kernel
set_option maxHeartbeats 4000000 in
set_option maxRecDepth 100000 in
theorem k_X0_signOf (l : Launch) (D : va_G) (cA : ClassId) (a0 : Int32) (r : Int32) (hf : f_X0_signOf a0 = some (r)) : Mi l yX0_signOf wsX0_signOf rmX0_signOf D cA z_0 [.int a0] [] r [] := by
  refine Mi.of (cc := cX0_signOf) (maxL := 1) (ret := (some .int)) (plainFor_of_name (by decide)) rfl (Nat.le_of_ble_eq_true rfl) (Or.inl rfl) ?_
  intro p e s m below meth c A Q hx hb hml hown hts hK hA hZ hret ls hl hw
  replace hown : s.vm.findClass RX0 = some m.cls := hown
  have hl : lv_has ls 1 [(0, .int a0)] := hl
  have hZo := z_0_ok
  unfold f_X0_signOf at hf
  obtain ⟨H, hH⟩ : ∃ H, H = s.heap := ⟨_, rfl⟩
  obtain ⟨locs, hlc⟩ : ∃ locs : List Loc, locs = [] := ⟨_, rfl⟩
  have hw : Wd D A s.heap H locs [] := by rw [hH, hlc]; exact hw
  have goal : W p l e rmX0_signOf s m ([.int a0] : List Value).toArray below meth c H locs 0 0 Q (F0 m 0 ls []) := by
    clear hH hlc
    refine lv_iload_n hx hb dX0_signOf_0 rfl (lv_at hl 0 rfl) ?_
    refine lv_bipush (v := 10) hx hb dX0_signOf_1 (by decide) ?_
    refine lv_icmp_ge (tgt := 13) hx hb dX0_signOf_3 (by decide) (fun c1 => ?_) (fun c1 => ?_)
    · have hf := if_t c1 hf
      refine lv_bipush (v := 97) hx hb dX0_signOf_13 (by decide) ?_
      refine lv_iload_n hx hb dX0_signOf_15 rfl (lv_at hl 0 rfl) ?_
      refine lv_iadd hx hb dX0_signOf_16 ?_
      refine lv_bipush (v := 10) hx hb dX0_signOf_17 (by decide) ?_
      refine lv_isub hx hb dX0_signOf_19 ?_
      have e0_ := sm1 hf
      exact hret _ _ _ _ _ hw e0_ (Or.inl rfl) dX0_signOf_20
    · have hf := if_f c1 hf
      refine lv_bipush (v := 48) hx hb dX0_signOf_6 (by decide) ?_
      refine lv_iload_n hx hb dX0_signOf_8 rfl (lv_at hl 0 rfl) ?_
      refine lv_iadd hx hb dX0_signOf_9 ?_
      refine lv_goto (tgt := 20) hx hb dX0_signOf_10 (by decide) ?_
      have e0_ := sm1 hf
      exact hret _ _ _ _ _ hw e0_ (Or.inl rfl) dX0_signOf_20
  rw [hH, hlc] at goal
  exact goal
abbrev rmX6_isBeyond : Room := { frames := 0, cells := 0, slots := 0, locals := 0 }
theorem hd_X6_isBeyond : yX6_isBeyond.cls ≠ "java/lang/invoke/MethodHandle" ∧ yX6_isBeyond.cls ≠ "java/lang/invoke/VarHandle" ∧ (parseMethodDescriptor yX6_isBeyond.desc).map (fun d => d.parameters.length) = some 1 := by decide +kernel
set_option maxHeartbeats 4000000 in
set_option maxRecDepth 100000 in
theorem k_X6_isBeyond (l : Launch) (D : va_G) (cA : ClassId) (a0 : Int32) (r : Int32) (hf : f_X6_isBeyond a0 = some (r)) : Mi l yX6_isBeyond wsX6_isBeyond rmX6_isBeyond D cA z_0 [.int a0] [] r [] := by
  refine Mi.of (cc := cX6_isBeyond) (maxL := 1) (ret := (some .boolean)) (plainFor_of_name (by decide)) rfl (Nat.le_of_ble_eq_true rfl) (Or.inr rfl) ?_
  intro p e s m below meth c A Q hx hb hml hown hts hK hA hZ hret ls hl hw
  replace hown : s.vm.findClass RX6 = some m.cls := hown
  have hl : lv_has ls 1 [(0, .int a0)] := hl
  have hZo := z_0_ok
  unfold f_X6_isBeyond at hf
  obtain ⟨H, hH⟩ : ∃ H, H = s.heap := ⟨_, rfl⟩
  obtain ⟨locs, hlc⟩ : ∃ locs : List Loc, locs = [] := ⟨_, rfl⟩
  have hw : Wd D A s.heap H locs [] := by rw [hH, hlc]; exact hw
  have goal : W p l e rmX6_isBeyond s m ([.int a0] : List Value).toArray below meth c H locs 0 0 Q (F0 m 0 ls []) := by
    clear hH hlc
    refine lv_iload_n hx hb dX6_isBeyond_0 rfl (lv_at hl 0 rfl) ?_
    refine lv_bipush (v := (-31)) hx hb dX6_isBeyond_1 (by decide) ?_
    refine lv_icmp_lt (tgt := 12) hx hb dX6_isBeyond_3 (by decide) (fun c1 => ?_) (fun c1 => ?_)
    · have hf := if_t c1 hf
      refine lv_iconst (v := 1) hx hb dX6_isBeyond_12 (by decide) ?_
      refine lv_goto (tgt := 17) hx hb dX6_isBeyond_13 (by decide) ?_
      have e0_ := sm1 hf
      exact hret _ _ _ _ _ hw e0_ (Or.inr (Or.inr rfl)) dX6_isBeyond_17
    · have hf := if_f c1 hf
      refine lv_iload_n hx hb dX6_isBeyond_6 rfl (lv_at hl 0 rfl) ?_
      refine lv_bipush (v := 62) hx hb dX6_isBeyond_7 (by decide) ?_
      refine lv_icmp_le (tgt := 16) hx hb dX6_isBeyond_9 (by decide) (fun c2 => ?_) (fun c2 => ?_)
      · have hf := if_t c2 hf
        refine lv_iconst (v := 0) hx hb dX6_isBeyond_16 (by decide) ?_
        have e0_ := sm1 hf
        exact hret _ _ _ _ _ hw e0_ (Or.inr (Or.inl rfl)) dX6_isBeyond_17
      · have hf := if_f c2 hf
        refine lv_iconst (v := 1) hx hb dX6_isBeyond_12 (by decide) ?_
        refine lv_goto (tgt := 17) hx hb dX6_isBeyond_13 (by decide) ?_
        have e0_ := sm1 hf
        exact hret _ _ _ _ _ hw e0_ (Or.inr (Or.inr rfl)) dX6_isBeyond_17
  rw [hH, hlc] at goal
  exact goal
abbrev rmX6_slantingSteps : Room := { frames := 0, cells := 0, slots := 0, locals := 0 }
theorem hd_X6_slantingSteps : yX6_slantingSteps.cls ≠ "java/lang/invoke/MethodHandle" ∧ yX6_slantingSteps.cls ≠ "java/lang/invoke/VarHandle" ∧ (parseMethodDescriptor yX6_slantingSteps.desc).map (fun d => d.parameters.length) = some 1 := by decide +kernel
set_option maxHeartbeats 4000000 in
set_option maxRecDepth 100000 in
theorem k_X6_slantingSteps (l : Launch) (D : va_G) (cA : ClassId) (a0 : Int32) (r : Int32) (hf : f_X6_slantingSteps a0 = some (r)) : Mi l yX6_slantingSteps wsX6_slantingSteps rmX6_slantingSteps D cA z_0 [.int a0] [] r [] := by
  refine Mi.of (cc := cX6_slantingSteps) (maxL := 2) (ret := (some .int)) (plainFor_of_name (by decide)) rfl (Nat.le_of_ble_eq_true rfl) (Or.inl rfl) ?_
  intro p e s m below meth c A Q hx hb hml hown hts hK hA hZ hret ls hl hw
  replace hown : s.vm.findClass RX6 = some m.cls := hown
  have hl : lv_has ls 2 [(0, .int a0)] := hl
  have hZo := z_0_ok
  have h_L2 : ∀ (v0 : Int32), ∀ (n : Nat) (v1 : Int32), f_X6_slantingSteps_L2 v0 n v1 = some (r) → ∀ (H : Heap) (locs : List Loc) (ls : Array Slot), Wd D A s.heap H locs [] → lv_has ls 2 [(0, .int v0), (1, .int v1)] → W p l e rmX6_slantingSteps s m ([.int a0] : List Value).toArray below meth c H locs 0 0 Q (F0 m 2 ls []) := by
    intro v0 n
    induction n with
    | zero =>
      intro v1 hf
      have hf : none = some (r) := hf
      cases hf
    | succ n ih =>
      intro v1 hf H locs ls hw hl
      have hf := (f_X6_slantingSteps_L2_s v0 n v1).symm.trans hf
      refine lv_iload_n hx hb dX6_slantingSteps_2 rfl (lv_at hl 1 rfl) ?_
      refine lv_iload_n hx hb dX6_slantingSteps_3 rfl (lv_at hl 0 rfl) ?_
      refine lv_icmp_ge (tgt := 28) hx hb dX6_slantingSteps_4 (by decide) (fun c1 => ?_) (fun c1 => ?_)
      · have hf := if_t c1 hf
        refine lv_iload_n hx hb dX6_slantingSteps_28 rfl (lv_at hl 1 rfl) ?_
        have e0_ := sm1 hf
        exact hret _ _ _ _ _ hw e0_ (Or.inl rfl) dX6_slantingSteps_29
      · have hf := if_f c1 hf
        refine lv_iconst (v := 2) hx hb dX6_slantingSteps_7 (by decide) ?_
        refine lv_iload_n hx hb dX6_slantingSteps_8 rfl (lv_at hl 1 rfl) ?_
        refine lv_iconst (v := 1) hx hb dX6_slantingSteps_9 (by decide) ?_
        refine lv_iadd hx hb dX6_slantingSteps_10 ?_
        refine lv_imul hx hb dX6_slantingSteps_11 ?_
        refine lv_iload_n hx hb dX6_slantingSteps_12 rfl (lv_at hl 1 rfl) ?_
        refine lv_iconst (v := 1) hx hb dX6_slantingSteps_13 (by decide) ?_
        refine lv_iadd hx hb dX6_slantingSteps_14 ?_
        refine lv_imul hx hb dX6_slantingSteps_15 ?_
        refine lv_iload_n hx hb dX6_slantingSteps_16 rfl (lv_at hl 0 rfl) ?_
        refine lv_iload_n hx hb dX6_slantingSteps_17 rfl (lv_at hl 0 rfl) ?_
        refine lv_imul hx hb dX6_slantingSteps_18 ?_
        refine lv_icmp_gt (tgt := 28) hx hb dX6_slantingSteps_19 (by decide) (fun c2 => ?_) (fun c2 => ?_)
        · have hf := if_t c2 hf
          refine lv_iload_n hx hb dX6_slantingSteps_28 rfl (lv_at hl 1 rfl) ?_
          have e0_ := sm1 hf
          exact hret _ _ _ _ _ hw e0_ (Or.inl rfl) dX6_slantingSteps_29
        · have hf := if_f c2 hf
          refine lv_iinc (v := v1 + 1) (lv' := [(1, .int (v1 + 1)), (0, .int v0)]) hx hb dX6_slantingSteps_22 hl (k := 1) rfl (by rfl) (by decide) rfl (fun ls hl => ?_)
          refine lv_goto (tgt := 2) hx hb dX6_slantingSteps_25 (by decide) ?_
          exact ih (v1 + 1) hf H locs ls hw (lv_sub hl [1, 0] rfl)
  unfold f_X6_slantingSteps at hf
  obtain ⟨H, hH⟩ : ∃ H, H = s.heap := ⟨_, rfl⟩
  obtain ⟨locs, hlc⟩ : ∃ locs : List Loc, locs = [] := ⟨_, rfl⟩
  have hw : Wd D A s.heap H locs [] := by rw [hH, hlc]; exact hw
  have goal : W p l e rmX6_slantingSteps s m ([.int a0] : List Value).toArray below meth c H locs 0 0 Q (F0 m 0 ls []) := by
    clear hH hlc
    refine lv_iconst (v := 0) hx hb dX6_slantingSteps_0 (by decide) ?_
    refine lv_istore_n (lv' := [(1, .int 0), (0, .int a0)]) hx hb dX6_slantingSteps_1 rfl hl (by decide) rfl (fun ls hl => ?_)
    exact h_L2 a0 _ 0 hf H locs ls hw (lv_sub hl [1, 0] rfl)
  rw [hH, hlc] at goal
  exact goal
abbrev rmX6_nextSeed : Room := { frames := 0, cells := 0, slots := 0, locals := 0 }
theorem hd_X6_nextSeed : yX6_nextSeed.cls ≠ "java/lang/invoke/MethodHandle" ∧ yX6_nextSeed.cls ≠ "java/lang/invoke/VarHandle" ∧ (parseMethodDescriptor yX6_nextSeed.desc).map (fun d => d.parameters.length) = some 1 := by decide +kernel
set_option maxHeartbeats 4000000 in
set_option maxRecDepth 100000 in
theorem k_X6_nextSeed (l : Launch) (D : va_G) (cA : ClassId) (a0 : Int32) (r : Int32) (hf : f_X6_nextSeed a0 = some (r)) : Mi l yX6_nextSeed wsX6_nextSeed rmX6_nextSeed D cA z_0 [.int a0] [] r [] := by
  refine Mi.of (cc := cX6_nextSeed) (maxL := 1) (ret := (some .int)) (plainFor_of_name (by decide)) rfl (Nat.le_of_ble_eq_true rfl) (Or.inl rfl) ?_
  intro p e s m below meth c A Q hx hb hml hown hts hK hA hZ hret ls hl hw
  replace hown : s.vm.findClass RX6 = some m.cls := hown
  have hl : lv_has ls 1 [(0, .int a0)] := hl
  have hZo := z_0_ok
  have q0 := hts (.constantLong RX6 274 1103515245) (by decide +kernel)
  have q1 := hts (.constantLong RX6 276 12345) (by decide +kernel)
  have q2 := hts (.constantLong RX6 278 2147483647) (by decide +kernel)
  unfold f_X6_nextSeed at hf
  obtain ⟨H, hH⟩ : ∃ H, H = s.heap := ⟨_, rfl⟩
  obtain ⟨locs, hlc⟩ : ∃ locs : List Loc, locs = [] := ⟨_, rfl⟩
  have hw : Wd D A s.heap H locs [] := by rw [hH, hlc]; exact hw
  have goal : W p l e rmX6_nextSeed s m ([.int a0] : List Value).toArray below meth c H locs 0 0 Q (F0 m 0 ls []) := by
    clear hH hlc
    refine lv_ldc2 hx hb hown q0 dX6_nextSeed_0 ?_
    refine lv_iload_n hx hb dX6_nextSeed_3 rfl (lv_at hl 0 rfl) ?_
    refine lv_i2l (v := (a0 : Int32).toInt64) hx hb dX6_nextSeed_4 rfl ?_
    refine lv_lmul hx hb dX6_nextSeed_5 ?_
    refine lv_ldc2 hx hb hown q1 dX6_nextSeed_6 ?_
    refine lv_ladd hx hb dX6_nextSeed_9 ?_
    refine lv_ldc2 hx hb hown q2 dX6_nextSeed_10 ?_
    refine lv_land hx hb dX6_nextSeed_13 ?_
    refine lv_l2i (v := (((1103515245 * ((a0 : Int32).toInt64)) + 12345) &&& 2147483647 : Int64).toInt32) hx hb dX6_nextSeed_14 rfl ?_
    have e0_ := sm1 hf
    exact hret _ _ _ _ _ hw e0_ (Or.inl rfl) dX6_nextSeed_15
  rw [hH, hlc] at goal
  exact goal
abbrev rmX6_drawn : Room := { frames := 0, cells := 0, slots := 0, locals := 0 }
theorem hd_X6_drawn : yX6_drawn.cls ≠ "java/lang/invoke/MethodHandle" ∧ yX6_drawn.cls ≠ "java/lang/invoke/VarHandle" ∧ (parseMethodDescriptor yX6_drawn.desc).map (fun d => d.parameters.length) = some 2 := by decide +kernel
set_option maxHeartbeats 4000000 in
set_option maxRecDepth 100000 in
theorem k_X6_drawn (l : Launch) (D : va_G) (cA : ClassId) (a0 : Int32) (a1 : Int32) (r : Int32) (hf : f_X6_drawn a0 a1 = some (r)) : Mi l yX6_drawn wsX6_drawn rmX6_drawn D cA z_0 [.int a0, .int a1] [] r [] := by
  refine Mi.of (cc := cX6_drawn) (maxL := 2) (ret := (some .int)) (plainFor_of_name (by decide)) rfl (Nat.le_of_ble_eq_true rfl) (Or.inl rfl) ?_
  intro p e s m below meth c A Q hx hb hml hown hts hK hA hZ hret ls hl hw
  replace hown : s.vm.findClass RX6 = some m.cls := hown
  have hl : lv_has ls 2 [(0, .int a0), (1, .int a1)] := hl
  have hZo := z_0_ok
  have q0 := hts (.constant RX6 280 65536) (by decide +kernel)
  unfold f_X6_drawn at hf
  obtain ⟨H, hH⟩ : ∃ H, H = s.heap := ⟨_, rfl⟩
  obtain ⟨locs, hlc⟩ : ∃ locs : List Loc, locs = [] := ⟨_, rfl⟩
  have hw : Wd D A s.heap H locs [] := by rw [hH, hlc]; exact hw
  have goal : W p l e rmX6_drawn s m ([.int a0, .int a1] : List Value).toArray below meth c H locs 0 0 Q (F0 m 0 ls []) := by
    clear hH hlc
    refine lv_iload_n hx hb dX6_drawn_0 rfl (lv_at hl 1 rfl) ?_
    refine lv_iconst (v := 1) hx hb dX6_drawn_1 (by decide) ?_
    refine lv_icmp_ge (tgt := 9) hx hb dX6_drawn_2 (by decide) (fun c1 => ?_) (fun c1 => ?_)
    · have hf := if_t c1 hf
      refine lv_iload_n hx hb dX6_drawn_9 rfl (lv_at hl 0 rfl) ?_
      refine lv_ldcw hx hb hown q0 dX6_drawn_10 ?_
      refine lv_idiv hx hb dX6_drawn_13 (by decide) ?_
      refine lv_iload_n hx hb dX6_drawn_14 rfl (lv_at hl 1 rfl) ?_
      obtain ⟨n2, hf⟩ := if_n hf
      refine lv_irem hx hb dX6_drawn_15 n2 ?_
      have e0_ := sm1 hf
      exact hret _ _ _ _ _ hw e0_ (Or.inl rfl) dX6_drawn_16
    · have hf := if_f c1 hf
      refine lv_iconst (v := 0) hx hb dX6_drawn_5 (by decide) ?_
      refine lv_goto (tgt := 16) hx hb dX6_drawn_6 (by decide) ?_
      have e0_ := sm1 hf
      exact hret _ _ _ _ _ hw e0_ (Or.inl rfl) dX6_drawn_16
  rw [hH, hlc] at goal
  exact goal
abbrev rmJ9_floorDiv_7cf53 : Room := { frames := 0, cells := 0, slots := 0, locals := 0 }
theorem hd_J9_floorDiv_7cf53 : yJ9_floorDiv_7cf53.cls ≠ "java/lang/invoke/MethodHandle" ∧ yJ9_floorDiv_7cf53.cls ≠ "java/lang/invoke/VarHandle" ∧ (parseMethodDescriptor yJ9_floorDiv_7cf53.desc).map (fun d => d.parameters.length) = some 2 := by decide +kernel
set_option maxHeartbeats 4000000 in
set_option maxRecDepth 100000 in
theorem k_J9_floorDiv_7cf53 (l : Launch) (D : va_G) (cA : ClassId) (a0 : Int32) (a1 : Int32) (r : Int32) (hf : f_J9_floorDiv_7cf53 a0 a1 = some (r)) : Mi l yJ9_floorDiv_7cf53 wsJ9_floorDiv_7cf53 rmJ9_floorDiv_7cf53 D cA z_0 [.int a0, .int a1] [] r [] := by
  refine Mi.of (cc := cJ9_floorDiv_7cf53) (maxL := 3) (ret := (some .int)) (by decide +kernel) rfl (Nat.le_of_ble_eq_true rfl) (Or.inl rfl) ?_
  intro p e s m below meth c A Q hx hb hml hown hts hK hA hZ hret ls hl hw
  replace hown : s.vm.findClass RJ9 = some m.cls := hown
  have hl : lv_has ls 3 [(0, .int a0), (1, .int a1)] := hl
  have hZo := z_0_ok
  unfold f_J9_floorDiv_7cf53 at hf
  obtain ⟨H, hH⟩ : ∃ H, H = s.heap := ⟨_, rfl⟩
  obtain ⟨locs, hlc⟩ : ∃ locs : List Loc, locs = [] := ⟨_, rfl⟩
  have hw : Wd D A s.heap H locs [] := by rw [hH, hlc]; exact hw
  have goal : W p l e rmJ9_floorDiv_7cf53 s m ([.int a0, .int a1] : List Value).toArray below meth c H locs 0 0 Q (F0 m 0 ls []) := by
    clear hH hlc
    refine lv_iload_n hx hb dJ9_floorDiv_7cf53_0 rfl (lv_at hl 0 rfl) ?_
    refine lv_iload_n hx hb dJ9_floorDiv_7cf53_1 rfl (lv_at hl 1 rfl) ?_
    obtain ⟨n1, hf⟩ := if_n hf
    refine lv_idiv hx hb dJ9_floorDiv_7cf53_2 n1 ?_
    refine lv_istore_n (lv' := [(2, .int (a0 / a1)), (0, .int a0), (1, .int a1)]) hx hb dJ9_floorDiv_7cf53_3 rfl hl (by decide) rfl (fun ls hl => ?_)
    refine lv_iload_n hx hb dJ9_floorDiv_7cf53_4 rfl (lv_at hl 1 rfl) ?_
    refine lv_iload_n hx hb dJ9_floorDiv_7cf53_5 rfl (lv_at hl 2 rfl) ?_
    refine lv_ixor hx hb dJ9_floorDiv_7cf53_6 ?_
    refine lv_if_ge (tgt := 21) hx hb dJ9_floorDiv_7cf53_7 (by decide) (fun c2 => ?_) (fun c2 => ?_)
    · have hf := if_t c2 hf
      refine lv_iload_n hx hb dJ9_floorDiv_7cf53_21 rfl (lv_at hl 0 rfl) ?_
      have e0_ := sm1 hf
      exact hret _ _ _ _ _ hw e0_ (Or.inl rfl) dJ9_floorDiv_7cf53_22
    · have hf := if_f c2 hf
      refine lv_iload_n hx hb dJ9_floorDiv_7cf53_10 rfl (lv_at hl 0 rfl) ?_
      refine lv_iload_n hx hb dJ9_floorDiv_7cf53_11 rfl (lv_at hl 2 rfl) ?_
      refine lv_imul hx hb dJ9_floorDiv_7cf53_12 ?_
      refine lv_iload_n hx hb dJ9_floorDiv_7cf53_13 rfl (lv_at hl 1 rfl) ?_
      refine lv_icmp_eq (tgt := 21) hx hb dJ9_floorDiv_7cf53_14 (by decide) (fun c3 => ?_) (fun c3 => ?_)
      · have hf := if_t c3 hf
        refine lv_iload_n hx hb dJ9_floorDiv_7cf53_21 rfl (lv_at hl 0 rfl) ?_
        have e0_ := sm1 hf
        exact hret _ _ _ _ _ hw e0_ (Or.inl rfl) dJ9_floorDiv_7cf53_22
      · have hf := if_f c3 hf
        refine lv_iload_n hx hb dJ9_floorDiv_7cf53_17 rfl (lv_at hl 0 rfl) ?_
        refine lv_iconst (v := 1) hx hb dJ9_floorDiv_7cf53_18 (by decide) ?_
        refine lv_isub hx hb dJ9_floorDiv_7cf53_19 ?_
        have e0_ := sm1 hf
        exact hret _ _ _ _ _ hw e0_ (Or.inl rfl) dJ9_floorDiv_7cf53_20
  rw [hH, hlc] at goal
  exact goal
abbrev rmX1_rootOf : Room := { frames := 0, cells := 0, slots := 0, locals := 0 }
theorem hd_X1_rootOf : yX1_rootOf.cls ≠ "java/lang/invoke/MethodHandle" ∧ yX1_rootOf.cls ≠ "java/lang/invoke/VarHandle" ∧ (parseMethodDescriptor yX1_rootOf.desc).map (fun d => d.parameters.length) = some 1 := by decide +kernel
set_option maxHeartbeats 4000000 in
set_option maxRecDepth 100000 in
theorem k_X1_rootOf (l : Launch) (D : va_G) (cA : ClassId) (a0 : Int64) (r : Int32) (hf : f_X1_rootOf a0 = some (r)) : Mi l yX1_rootOf wsX1_rootOf rmX1_rootOf D cA z_0 [.long a0] [] r [] := by
  refine Mi.of (cc := cX1_rootOf) (maxL := 6) (ret := (some .int)) (plainFor_of_name (by decide)) rfl (Nat.le_of_ble_eq_true rfl) (Or.inl rfl) ?_
  intro p e s m below meth c A Q hx hb hml hown hts hK hA hZ hret ls hl hw
  replace hown : s.vm.findClass RX1 = some m.cls := hown
  have hl : lv_has ls 6 [(0, .long a0)] := hl
  have hZo := z_0_ok
  have q0 := hts (.constantLong RX1 88 1048576) (by decide +kernel)
  have h_L7 : ∀ (v0 : Int64), ∀ (n : Nat) (v2 : Int64) (v4 : Int64), f_X1_rootOf_L7 v0 n v2 v4 = some (r) → ∀ (H : Heap) (locs : List Loc) (ls : Array Slot), Wd D A s.heap H locs [] → lv_has ls 6 [(0, .long v0), (2, .long v2), (4, .long v4)] → W p l e rmX1_rootOf s m ([.long a0] : List Value).toArray below meth c H locs 0 0 Q (F0 m 7 ls []) := by
    intro v0 n
    induction n with
    | zero =>
      intro v2 v4 hf
      have hf : none = some (r) := hf
      cases hf
    | succ n ih =>
      intro v2 v4 hf H locs ls hw hl
      have hf := (f_X1_rootOf_L7_s v0 n v2 v4).symm.trans hf
      refine lv_lload hx hb dX1_rootOf_7 (lv_at hl 2 rfl) ?_
      refine lv_lconst (v := 0) hx hb dX1_rootOf_9 (by decide) ?_
      refine W.lcmp hx hb dX1_rootOf_10 ?_
      refine lv_if_le (tgt := 42) hx hb dX1_rootOf_11 (by decide) (fun c1 => ?_) (fun c1 => ?_)
      · have hf := if_t c1 hf
        refine lv_lload_n hx hb dX1_rootOf_42 rfl (lv_at hl 1 rfl) ?_
        refine lv_l2i (v := (v2 : Int64).toInt32) hx hb dX1_rootOf_43 rfl ?_
        have e0_ := sm1 hf
        exact hret _ _ _ _ _ hw e0_ (Or.inl rfl) dX1_rootOf_44
      · have hf := if_f c1 hf
        refine lv_lload_n hx hb dX1_rootOf_14 rfl (lv_at hl 1 rfl) ?_
        refine lv_lload hx hb dX1_rootOf_15 (lv_at hl 2 rfl) ?_
        refine lv_ladd hx hb dX1_rootOf_17 ?_
        refine lv_lload_n hx hb dX1_rootOf_18 rfl (lv_at hl 1 rfl) ?_
        refine lv_lload hx hb dX1_rootOf_19 (lv_at hl 2 rfl) ?_
        refine lv_ladd hx hb dX1_rootOf_21 ?_
        refine lv_lmul hx hb dX1_rootOf_22 ?_
        refine lv_lload_n hx hb dX1_rootOf_23 rfl (lv_at hl 0 rfl) ?_
        refine W.lcmp hx hb dX1_rootOf_24 ?_
        refine lv_if_gt (tgt := 33) hx hb dX1_rootOf_25 (by decide) (fun c2 => ?_) (fun c2 => ?_)
        · have hf := if_t c2 hf
          refine lv_lload hx hb dX1_rootOf_33 (lv_at hl 2 rfl) ?_
          refine lv_iconst (v := 1) hx hb dX1_rootOf_35 (by decide) ?_
          refine lv_lshr (v := v4 >>> ((1 : Int32).toInt64 &&& 63)) hx hb dX1_rootOf_36 rfl ?_
          obtain ⟨y3, e4, hf⟩ := bn1_e hf
          refine w_nml (sm1 e4) ?_
          refine lv_lstore (lv' := [(4, .long y3), (0, .long v0), (2, .long v2)]) hx hb dX1_rootOf_37 hl (by decide) rfl (fun ls hl => ?_)
          refine lv_goto (tgt := 7) hx hb dX1_rootOf_39 (by decide) ?_
          exact ih v2 y3 hf H locs ls hw (lv_sub hl [1, 2, 0] rfl)
        · have hf := if_f c2 hf
          refine lv_lload_n hx hb dX1_rootOf_28 rfl (lv_at hl 1 rfl) ?_
          refine lv_lload hx hb dX1_rootOf_29 (lv_at hl 2 rfl) ?_
          refine lv_ladd hx hb dX1_rootOf_31 ?_
          refine lv_lstore_n (lv' := [(2, .long (v2 + v4)), (0, .long v0), (4, .long v4)]) hx hb dX1_rootOf_32 rfl hl (by decide) rfl (fun ls hl => ?_)
          refine lv_lload hx hb dX1_rootOf_33 (lv_at hl 2 rfl) ?_
          refine lv_iconst (v := 1) hx hb dX1_rootOf_35 (by decide) ?_
          refine lv_lshr (v := v4 >>> ((1 : Int32).toInt64 &&& 63)) hx hb dX1_rootOf_36 rfl ?_
          obtain ⟨y5, e6, hf⟩ := bn1_e hf
          refine w_nml (sm1 e6) ?_
          refine lv_lstore (lv' := [(4, .long y5), (2, .long (v2 + v4)), (0, .long v0)]) hx hb dX1_rootOf_37 hl (by decide) rfl (fun ls hl => ?_)
          refine lv_goto (tgt := 7) hx hb dX1_rootOf_39 (by decide) ?_
          exact ih (v2 + v4) y5 hf H locs ls hw (lv_sub hl [2, 1, 0] rfl)
  unfold f_X1_rootOf at hf
  obtain ⟨H, hH⟩ : ∃ H, H = s.heap := ⟨_, rfl⟩
  obtain ⟨locs, hlc⟩ : ∃ locs : List Loc, locs = [] := ⟨_, rfl⟩
  have hw : Wd D A s.heap H locs [] := by rw [hH, hlc]; exact hw
  have goal : W p l e rmX1_rootOf s m ([.long a0] : List Value).toArray below meth c H locs 0 0 Q (F0 m 0 ls []) := by
    clear hH hlc
    refine lv_lconst (v := 0) hx hb dX1_rootOf_0 (by decide) ?_
    refine lv_lstore_n (lv' := [(2, .long 0), (0, .long a0)]) hx hb dX1_rootOf_1 rfl hl (by decide) rfl (fun ls hl => ?_)
    refine lv_ldc2 hx hb hown q0 dX1_rootOf_2 ?_
    refine lv_lstore (lv' := [(4, .long 1048576), (2, .long 0), (0, .long a0)]) hx hb dX1_rootOf_5 hl (by decide) rfl (fun ls hl => ?_)
    exact h_L7 a0 _ 0 1048576 hf H locs ls hw (lv_sub hl [2, 1, 0] rfl)
  rw [hH, hlc] at goal
  exact goal
abbrev rmX6_keyOf : Room := { frames := 0, cells := 0, slots := 0, locals := 0 }
theorem hd_X6_keyOf : yX6_keyOf.cls ≠ "java/lang/invoke/MethodHandle" ∧ yX6_keyOf.cls ≠ "java/lang/invoke/VarHandle" ∧ (parseMethodDescriptor yX6_keyOf.desc).map (fun d => d.parameters.length) = some 3 := by decide +kernel
set_option maxHeartbeats 4000000 in
set_option maxRecDepth 100000 in
theorem k_X6_keyOf (l : Launch) (D : va_G) (cA : ClassId) (a0 : Int32) (a1 : Int32) (a2 : Int32) (r : Int32) (hf : f_X6_keyOf a0 a1 a2 = some (r)) : Mi l yX6_keyOf wsX6_keyOf rmX6_keyOf D cA z_0 [.int a0, .int a1, .int a2] [] r [] := by
  refine Mi.of (cc := cX6_keyOf) (maxL := 3) (ret := (some .int)) (plainFor_of_name (by decide)) rfl (Nat.le_of_ble_eq_true rfl) (Or.inl rfl) ?_
  intro p e s m below meth c A Q hx hb hml hown hts hK hA hZ hret ls hl hw
  replace hown : s.vm.findClass RX6 = some m.cls := hown
  have hl : lv_has ls 3 [(0, .int a0), (1, .int a1), (2, .int a2)] := hl
  have hZo := z_0_ok
  unfold f_X6_keyOf at hf
  obtain ⟨H, hH⟩ : ∃ H, H = s.heap := ⟨_, rfl⟩
  obtain ⟨locs, hlc⟩ : ∃ locs : List Loc, locs = [] := ⟨_, rfl⟩
  have hw : Wd D A s.heap H locs [] := by rw [hH, hlc]; exact hw
  have goal : W p l e rmX6_keyOf s m ([.int a0, .int a1, .int a2] : List Value).toArray below meth c H locs 0 0 Q (F0 m 0 ls []) := by
    clear hH hlc
    refine lv_iload_n hx hb dX6_keyOf_0 rfl (lv_at hl 2 rfl) ?_
    refine lv_bipush (v := 10) hx hb dX6_keyOf_1 (by decide) ?_
    refine lv_ishl hx hb dX6_keyOf_3 ?_
    refine lv_iload_n hx hb dX6_keyOf_4 rfl (lv_at hl 1 rfl) ?_
    refine lv_iconst (v := 5) hx hb dX6_keyOf_5 (by decide) ?_
    refine lv_ishl hx hb dX6_keyOf_6 ?_
    refine lv_ior hx hb dX6_keyOf_7 ?_
    refine lv_iload_n hx hb dX6_keyOf_8 rfl (lv_at hl 0 rfl) ?_
    refine lv_ior hx hb dX6_keyOf_9 ?_
    have e0_ := sm1 hf
    exact hret _ _ _ _ _ hw e0_ (Or.inl rfl) dX6_keyOf_10
  rw [hH, hlc] at goal
  exact goal
abbrev rmX5_sortUp : Room := { frames := 0, cells := 0, slots := 0, locals := 0 }
theorem hd_X5_sortUp : yX5_sortUp.cls ≠ "java/lang/invoke/MethodHandle" ∧ yX5_sortUp.cls ≠ "java/lang/invoke/VarHandle" ∧ (parseMethodDescriptor yX5_sortUp.desc).map (fun d => d.parameters.length) = some 2 := by decide +kernel
set_option maxHeartbeats 4000000 in
set_option maxRecDepth 100000 in
theorem k_X5_sortUp (l : Launch) (D : va_G) (cA : ClassId) (o : Nat → Nat) (f : (Nat → Int32)) (a1 : Int32) (f' : (Nat → Int32)) (hf : f_X5_sortUp f a1 = some (f')) : Mv l yX5_sortUp wsX5_sortUp rmX5_sortUp D cA z_0 [.ref (o 0), .int a1] [(o 0, .inl (cA, 364, .inl f))] [(o 0, .inl (cA, 364, .inl f'))] := by
  refine Mv.of (cc := cX5_sortUp) (maxL := 6) (by decide) rfl (Nat.le_of_ble_eq_true rfl) ?_
  intro p e s m below meth c A Q hx hb hml hown hts hK hA hZ hret ls hl hw
  replace hown : s.vm.findClass RX5 = some m.cls := hown
  have hl : lv_has ls 6 [(0, .ref (o 0)), (1, .int a1)] := hl
  have hZo := z_0_ok
  have h_L22 : ∀ (v1 : Int32) (v2 : Int32) (v3 : Int32) (v4 : Int32) (K : Int32 → (Nat → Int32) → Option ((Nat → Int32))), (∀ (z0 : Int32) (z1 : (Nat → Int32)), K z0 z1 = some (f') → ∀ (H : Heap) (locs : List Loc) (ls : Array Slot), Wd D A s.heap H locs [(o 0, .inl (cA, 364, .inl z1))] → lv_has ls 6 [(0, .ref (o 0)), (1, .int v1), (2, .int v2), (3, .int v3), (4, .int v4), (5, .int z0)] → W p l e rmX5_sortUp s m ([.ref (o 0), .int a1] : List Value).toArray below meth c H locs 0 0 Q (F0 m 58 ls [])) → ∀ (n : Nat) (v5 : Int32) (f : (Nat → Int32)), f_X5_sortUp_L22 v1 v2 v3 v4 K n v5 f = some (f') → ∀ (H : Heap) (locs : List Loc) (ls : Array Slot), Wd D A s.heap H locs [(o 0, .inl (cA, 364, .inl f))] → lv_has ls 6 [(0, .ref (o 0)), (1, .int v1), (2, .int v2), (3, .int v3), (4, .int v4), (5, .int v5)] → W p l e rmX5_sortUp s m ([.ref (o 0), .int a1] : List Value).toArray below meth c H locs 0 0 Q (F0 m 22 ls []) := by
    intro v1 v2 v3 v4 K hK9 n
    induction n with
    | zero =>
      intro v5 f hf
      have hf : none = some (f') := hf
      cases hf
    | succ n ih =>
      intro v5 f hf H locs ls hw hl
      have hf := (f_X5_sortUp_L22_s v1 v2 v3 v4 K n v5 f).symm.trans hf
      refine lv_iload hx hb dX5_sortUp_22 (lv_at hl 5 rfl) ?_
      refine lv_iload_n hx hb dX5_sortUp_24 rfl (lv_at hl 2 rfl) ?_
      refine lv_icmp_lt (tgt := 58) hx hb dX5_sortUp_25 (by decide) (fun c5 => ?_) (fun c5 => ?_)
      · have hf := if_t c5 hf
        exact hK9 v5 f hf H locs ls hw (lv_sub hl [0, 1, 2, 3, 4, 5] rfl)
      · have hf := if_f c5 hf
        refine lv_aload_n hx hb dX5_sortUp_28 rfl (lv_at hl 0 rfl) ?_
        refine lv_iload hx hb dX5_sortUp_29 (lv_at hl 5 rfl) ?_
        refine lv_iload_n hx hb dX5_sortUp_31 rfl (lv_at hl 2 rfl) ?_
        refine lv_isub hx hb dX5_sortUp_32 ?_
        obtain ⟨x6, g7, hf⟩ := bn1_e hf
        refine w_ald hx hb hK hw 0 rfl g7 dX5_sortUp_33 ?_
        refine lv_iload hx hb dX5_sortUp_34 (lv_at hl 4 rfl) ?_
        refine lv_icmp_le (tgt := 58) hx hb dX5_sortUp_36 (by decide) (fun c8 => ?_) (fun c8 => ?_)
        · have hf := if_t c8 hf
          exact hK9 v5 f hf H locs ls hw (lv_sub hl [0, 1, 2, 3, 4, 5] rfl)
        · have hf := if_f c8 hf
          refine lv_aload_n hx hb dX5_sortUp_39 rfl (lv_at hl 0 rfl) ?_
          refine lv_iload hx hb dX5_sortUp_40 (lv_at hl 5 rfl) ?_
          refine lv_aload_n hx hb dX5_sortUp_42 rfl (lv_at hl 0 rfl) ?_
          refine lv_iload hx hb dX5_sortUp_43 (lv_at hl 5 rfl) ?_
          refine lv_iload_n hx hb dX5_sortUp_45 rfl (lv_at hl 2 rfl) ?_
          refine lv_isub hx hb dX5_sortUp_46 ?_
          obtain ⟨x9, g10, hf⟩ := bn1_e hf
          refine w_ald hx hb hK hw 0 rfl g10 dX5_sortUp_47 ?_
          obtain ⟨f12, g11, hf⟩ := bn1_e hf
          refine w_ast (ws' := [(o 0, .inl (cA, 364, .inl f12))]) hx hb hK hw 0 rfl g11 rfl dX5_sortUp_48 (fun H locs hw => ?_)
          refine lv_iload hx hb dX5_sortUp_49 (lv_at hl 5 rfl) ?_
          refine lv_iload_n hx hb dX5_sortUp_51 rfl (lv_at hl 2 rfl) ?_
          refine lv_isub hx hb dX5_sortUp_52 ?_
          refine lv_istore (lv' := [(5, .int (v5 - v2)), (0, .ref (o 0)), (1, .int v1), (2, .int v2), (3, .int v3), (4, .int v4)]) hx hb dX5_sortUp_53 hl (by decide) rfl (fun ls hl => ?_)
          refine lv_goto (tgt := 22) hx hb dX5_sortUp_55 (by decide) ?_
          exact ih (v5 - v2) f12 hf H locs ls hw (lv_sub hl [1, 2, 3, 4, 5, 0] rfl)
  have h_L9 : ∀ (v1 : Int32) (v2 : Int32) (K : (Nat → Int32) → Option ((Nat → Int32))), (∀ (z0 : (Nat → Int32)), K z0 = some (f') → ∀ (H : Heap) (locs : List Loc) (ls : Array Slot), Wd D A s.heap H locs [(o 0, .inl (cA, 364, .inl z0))] → lv_has ls 6 [(0, .ref (o 0)), (1, .int v1), (2, .int v2)] → W p l e rmX5_sortUp s m ([.ref (o 0), .int a1] : List Value).toArray below meth c H locs 0 0 Q (F0 m 70 ls [])) → ∀ (n : Nat) (v3 : Int32) (f : (Nat → Int32)), f_X5_sortUp_L9 v1 v2 K n v3 f = some (f') → ∀ (H : Heap) (locs : List Loc) (ls : Array Slot), Wd D A s.heap H locs [(o 0, .inl (cA, 364, .inl f))] → lv_has ls 6 [(0, .ref (o 0)), (1, .int v1), (2, .int v2), (3, .int v3)] → W p l e rmX5_sortUp s m ([.ref (o 0), .int a1] : List Value).toArray below meth c H locs 0 0 Q (F0 m 9 ls []) := by
    intro v1 v2 K hK9 n
    induction n with
    | zero =>
      intro v3 f hf
      have hf : none = some (f') := hf
      cases hf
    | succ n ih =>
      intro v3 f hf H locs ls hw hl
      have hf := (f_X5_sortUp_L9_s v1 v2 K n v3 f).symm.trans hf
      refine lv_iload_n hx hb dX5_sortUp_9 rfl (lv_at hl 3 rfl) ?_
      refine lv_iload_n hx hb dX5_sortUp_10 rfl (lv_at hl 1 rfl) ?_
      refine lv_icmp_ge (tgt := 70) hx hb dX5_sortUp_11 (by decide) (fun c2 => ?_) (fun c2 => ?_)
      · have hf := if_t c2 hf
        exact hK9 f hf H locs ls hw (lv_sub hl [0, 1, 2] rfl)
      · have hf := if_f c2 hf
        refine lv_aload_n hx hb dX5_sortUp_14 rfl (lv_at hl 0 rfl) ?_
        refine lv_iload_n hx hb dX5_sortUp_15 rfl (lv_at hl 3 rfl) ?_
        obtain ⟨x3, g4, hf⟩ := bn1_e hf
        refine w_ald hx hb hK hw 0 rfl g4 dX5_sortUp_16 ?_
        refine lv_istore (lv' := [(4, .int x3), (0, .ref (o 0)), (1, .int v1), (2, .int v2), (3, .int v3)]) hx hb dX5_sortUp_17 hl (by decide) rfl (fun ls hl => ?_)
        refine lv_iload_n hx hb dX5_sortUp_19 rfl (lv_at hl 4 rfl) ?_
        refine lv_istore (lv' := [(5, .int v3), (4, .int x3), (0, .ref (o 0)), (1, .int v1), (2, .int v2), (3, .int v3)]) hx hb dX5_sortUp_20 hl (by decide) rfl (fun ls hl => ?_)
        refine h_L22 v1 v2 v3 x3 _ ?_ _ v3 f hf H locs ls hw (lv_sub hl [2, 3, 4, 5, 1, 0] rfl)
        intro v13 f14 hf H locs ls hw hl
        refine lv_aload_n hx hb dX5_sortUp_58 rfl (lv_at hl 0 rfl) ?_
        refine lv_iload hx hb dX5_sortUp_59 (lv_at hl 5 rfl) ?_
        refine lv_iload hx hb dX5_sortUp_61 (lv_at hl 4 rfl) ?_
        obtain ⟨f16, g15, hf⟩ := bn1_e hf
        refine w_ast (ws' := [(o 0, .inl (cA, 364, .inl f16))]) hx hb hK hw 0 rfl g15 rfl dX5_sortUp_63 (fun H locs hw => ?_)
        refine lv_iinc (v := v3 + 1) (lv' := [(3, .int (v3 + 1)), (0, .ref (o 0)), (1, .int v1), (2, .int v2), (4, .int x3), (5, .int v13)]) hx hb dX5_sortUp_64 hl (k := 3) rfl (by rfl) (by decide) rfl (fun ls hl => ?_)
        refine lv_goto (tgt := 9) hx hb dX5_sortUp_67 (by decide) ?_
        exact ih (v3 + 1) f16 hf H locs ls hw (lv_sub hl [1, 2, 3, 0] rfl)
  have h_L3 : ∀ (v1 : Int32), ∀ (n : Nat) (v2 : Int32) (f : (Nat → Int32)), f_X5_sortUp_L3 v1 n v2 f = some (f') → ∀ (H : Heap) (locs : List Loc) (ls : Array Slot), Wd D A s.heap H locs [(o 0, .inl (cA, 364, .inl f))] → lv_has ls 6 [(0, .ref (o 0)), (1, .int v1), (2, .int v2)] → W p l e rmX5_sortUp s m ([.ref (o 0), .int a1] : List Value).toArray below meth c H locs 0 0 Q (F0 m 3 ls []) := by
    intro v1 n
    induction n with
    | zero =>
      intro v2 f hf
      have hf : none = some (f') := hf
      cases hf
    | succ n ih =>
      intro v2 f hf H locs ls hw hl
      have hf := (f_X5_sortUp_L3_s v1 n v2 f).symm.trans hf
      refine lv_iload_n hx hb dX5_sortUp_3 rfl (lv_at hl 2 rfl) ?_
      refine lv_if_le (tgt := 77) hx hb dX5_sortUp_4 (by decide) (fun c1 => ?_) (fun c1 => ?_)
      · have hf := if_t c1 hf
        have e0_ := sm1 hf
        exact hret _ _ _ _ (by rw [← e0_]; exact hw) dX5_sortUp_77
      · have hf := if_f c1 hf
        refine lv_iload_n hx hb dX5_sortUp_7 rfl (lv_at hl 2 rfl) ?_
        refine lv_istore_n (lv' := [(3, .int v2), (0, .ref (o 0)), (1, .int v1), (2, .int v2)]) hx hb dX5_sortUp_8 rfl hl (by decide) rfl (fun ls hl => ?_)
        refine h_L9 v1 v2 _ ?_ _ v2 f hf H locs ls hw (lv_sub hl [1, 2, 3, 0] rfl)
        intro f17 hf H locs ls hw hl
        refine lv_iload_n hx hb dX5_sortUp_70 rfl (lv_at hl 2 rfl) ?_
        refine lv_iconst (v := 3) hx hb dX5_sortUp_71 (by decide) ?_
        refine lv_idiv hx hb dX5_sortUp_72 (by decide) ?_
        refine lv_istore_n (lv' := [(2, .int (v2 / 3)), (0, .ref (o 0)), (1, .int v1)]) hx hb dX5_sortUp_73 rfl hl (by decide) rfl (fun ls hl => ?_)
        refine lv_goto (tgt := 3) hx hb dX5_sortUp_74 (by decide) ?_
        exact ih (v2 / 3) f17 hf H locs ls hw (lv_sub hl [1, 2, 0] rfl)
  unfold f_X5_sortUp at hf
  obtain ⟨H, hH⟩ : ∃ H, H = s.heap := ⟨_, rfl⟩
  obtain ⟨locs, hlc⟩ : ∃ locs : List Loc, locs = [] := ⟨_, rfl⟩
  have hw : Wd D A s.heap H locs [(o 0, .inl (cA, 364, .inl f))] := by rw [hH, hlc]; exact hw
  have goal : W p l e rmX5_sortUp s m ([.ref (o 0), .int a1] : List Value).toArray below meth c H locs 0 0 Q (F0 m 0 ls []) := by
    clear hH hlc
    refine lv_bipush (v := 121) hx hb dX5_sortUp_0 (by decide) ?_
    refine lv_istore_n (lv' := [(2, .int 121), (0, .ref (o 0)), (1, .int a1)]) hx hb dX5_sortUp_2 rfl hl (by decide) rfl (fun ls hl => ?_)
    exact h_L3 a1 _ 121 f hf H locs ls hw (lv_sub hl [1, 2, 0] rfl)
  rw [hH, hlc] at goal
  exact goal
abbrev rmX6_keyX : Room := { frames := 0, cells := 0, slots := 0, locals := 0 }
theorem hd_X6_keyX : yX6_keyX.cls ≠ "java/lang/invoke/MethodHandle" ∧ yX6_keyX.cls ≠ "java/lang/invoke/VarHandle" ∧ (parseMethodDescriptor yX6_keyX.desc).map (fun d => d.parameters.length) = some 1 := by decide +kernel
set_option maxHeartbeats 4000000 in
set_option maxRecDepth 100000 in
theorem k_X6_keyX (l : Launch) (D : va_G) (cA : ClassId) (a0 : Int32) (r : Int32) (hf : f_X6_keyX a0 = some (r)) : Mi l yX6_keyX wsX6_keyX rmX6_keyX D cA z_0 [.int a0] [] r [] := by
  refine Mi.of (cc := cX6_keyX) (maxL := 1) (ret := (some .int)) (plainFor_of_name (by decide)) rfl (Nat.le_of_ble_eq_true rfl) (Or.inl rfl) ?_
  intro p e s m below meth c A Q hx hb hml hown hts hK hA hZ hret ls hl hw
  replace hown : s.vm.findClass RX6 = some m.cls := hown
  have hl : lv_has ls 1 [(0, .int a0)] := hl
  have hZo := z_0_ok
  unfold f_X6_keyX at hf
  obtain ⟨H, hH⟩ : ∃ H, H = s.heap := ⟨_, rfl⟩
  obtain ⟨locs, hlc⟩ : ∃ locs : List Loc, locs = [] := ⟨_, rfl⟩
  have hw : Wd D A s.heap H locs [] := by rw [hH, hlc]; exact hw
  have goal : W p l e rmX6_keyX s m ([.int a0] : List Value).toArray below meth c H locs 0 0 Q (F0 m 0 ls []) := by
    clear hH hlc
    refine lv_iload_n hx hb dX6_keyX_0 rfl (lv_at hl 0 rfl) ?_
    refine lv_bipush (v := 31) hx hb dX6_keyX_1 (by decide) ?_
    refine lv_iand hx hb dX6_keyX_3 ?_
    have e0_ := sm1 hf
    exact hret _ _ _ _ _ hw e0_ (Or.inl rfl) dX6_keyX_4
  rw [hH, hlc] at goal
  exact goal
abbrev rmX6_keyY : Room := { frames := 0, cells := 0, slots := 0, locals := 0 }
theorem hd_X6_keyY : yX6_keyY.cls ≠ "java/lang/invoke/MethodHandle" ∧ yX6_keyY.cls ≠ "java/lang/invoke/VarHandle" ∧ (parseMethodDescriptor yX6_keyY.desc).map (fun d => d.parameters.length) = some 1 := by decide +kernel
set_option maxHeartbeats 4000000 in
set_option maxRecDepth 100000 in
theorem k_X6_keyY (l : Launch) (D : va_G) (cA : ClassId) (a0 : Int32) (r : Int32) (hf : f_X6_keyY a0 = some (r)) : Mi l yX6_keyY wsX6_keyY rmX6_keyY D cA z_0 [.int a0] [] r [] := by
  refine Mi.of (cc := cX6_keyY) (maxL := 1) (ret := (some .int)) (plainFor_of_name (by decide)) rfl (Nat.le_of_ble_eq_true rfl) (Or.inl rfl) ?_
  intro p e s m below meth c A Q hx hb hml hown hts hK hA hZ hret ls hl hw
  replace hown : s.vm.findClass RX6 = some m.cls := hown
  have hl : lv_has ls 1 [(0, .int a0)] := hl
  have hZo := z_0_ok
  unfold f_X6_keyY at hf
  obtain ⟨H, hH⟩ : ∃ H, H = s.heap := ⟨_, rfl⟩
  obtain ⟨locs, hlc⟩ : ∃ locs : List Loc, locs = [] := ⟨_, rfl⟩
  have hw : Wd D A s.heap H locs [] := by rw [hH, hlc]; exact hw
  have goal : W p l e rmX6_keyY s m ([.int a0] : List Value).toArray below meth c H locs 0 0 Q (F0 m 0 ls []) := by
    clear hH hlc
    refine lv_iload_n hx hb dX6_keyY_0 rfl (lv_at hl 0 rfl) ?_
    refine lv_iconst (v := 5) hx hb dX6_keyY_1 (by decide) ?_
    refine lv_ishr hx hb dX6_keyY_2 ?_
    refine lv_bipush (v := 31) hx hb dX6_keyY_3 (by decide) ?_
    refine lv_iand hx hb dX6_keyY_5 ?_
    have e0_ := sm1 hf
    exact hret _ _ _ _ _ hw e0_ (Or.inl rfl) dX6_keyY_6
  rw [hH, hlc] at goal
  exact goal
abbrev rmX6_keyRadius : Room := { frames := 0, cells := 0, slots := 0, locals := 0 }
theorem hd_X6_keyRadius : yX6_keyRadius.cls ≠ "java/lang/invoke/MethodHandle" ∧ yX6_keyRadius.cls ≠ "java/lang/invoke/VarHandle" ∧ (parseMethodDescriptor yX6_keyRadius.desc).map (fun d => d.parameters.length) = some 1 := by decide +kernel
set_option maxHeartbeats 4000000 in
set_option maxRecDepth 100000 in
theorem k_X6_keyRadius (l : Launch) (D : va_G) (cA : ClassId) (a0 : Int32) (r : Int32) (hf : f_X6_keyRadius a0 = some (r)) : Mi l yX6_keyRadius wsX6_keyRadius rmX6_keyRadius D cA z_0 [.int a0] [] r [] := by
  refine Mi.of (cc := cX6_keyRadius) (maxL := 1) (ret := (some .int)) (plainFor_of_name (by decide)) rfl (Nat.le_of_ble_eq_true rfl) (Or.inl rfl) ?_
  intro p e s m below meth c A Q hx hb hml hown hts hK hA hZ hret ls hl hw
  replace hown : s.vm.findClass RX6 = some m.cls := hown
  have hl : lv_has ls 1 [(0, .int a0)] := hl
  have hZo := z_0_ok
  unfold f_X6_keyRadius at hf
  obtain ⟨H, hH⟩ : ∃ H, H = s.heap := ⟨_, rfl⟩
  obtain ⟨locs, hlc⟩ : ∃ locs : List Loc, locs = [] := ⟨_, rfl⟩
  have hw : Wd D A s.heap H locs [] := by rw [hH, hlc]; exact hw
  have goal : W p l e rmX6_keyRadius s m ([.int a0] : List Value).toArray below meth c H locs 0 0 Q (F0 m 0 ls []) := by
    clear hH hlc
    refine lv_iload_n hx hb dX6_keyRadius_0 rfl (lv_at hl 0 rfl) ?_
    refine lv_bipush (v := 10) hx hb dX6_keyRadius_1 (by decide) ?_
    refine lv_ishr hx hb dX6_keyRadius_3 ?_
    refine lv_bipush (v := 31) hx hb dX6_keyRadius_4 (by decide) ?_
    refine lv_iand hx hb dX6_keyRadius_6 ?_
    have e0_ := sm1 hf
    exact hret _ _ _ _ _ hw e0_ (Or.inl rfl) dX6_keyRadius_7
  rw [hH, hlc] at goal
  exact goal
abbrev rmJ6_bitCount_0f7a4 : Room := { frames := 0, cells := 0, slots := 0, locals := 0 }
theorem hd_J6_bitCount_0f7a4 : yJ6_bitCount_0f7a4.cls ≠ "java/lang/invoke/MethodHandle" ∧ yJ6_bitCount_0f7a4.cls ≠ "java/lang/invoke/VarHandle" ∧ (parseMethodDescriptor yJ6_bitCount_0f7a4.desc).map (fun d => d.parameters.length) = some 1 := by decide +kernel
set_option maxHeartbeats 4000000 in
set_option maxRecDepth 100000 in
theorem k_J6_bitCount_0f7a4 (l : Launch) (D : va_G) (cA : ClassId) (a0 : Int32) (r : Int32) (hf : f_J6_bitCount_0f7a4 a0 = some (r)) : Mi l yJ6_bitCount_0f7a4 wsJ6_bitCount_0f7a4 rmJ6_bitCount_0f7a4 D cA z_0 [.int a0] [] r [] := by
  refine Mi.of (cc := cJ6_bitCount_0f7a4) (maxL := 1) (ret := (some .int)) (by decide +kernel) rfl (Nat.le_of_ble_eq_true rfl) (Or.inl rfl) ?_
  intro p e s m below meth c A Q hx hb hml hown hts hK hA hZ hret ls hl hw
  replace hown : s.vm.findClass RJ6 = some m.cls := hown
  have hl : lv_has ls 1 [(0, .int a0)] := hl
  have hZo := z_0_ok
  have q0 := hts (.constant RJ6 265 1431655765) (by decide +kernel)
  have q1 := hts (.constant RJ6 266 858993459) (by decide +kernel)
  have q2 := hts (.constant RJ6 267 252645135) (by decide +kernel)
  unfold f_J6_bitCount_0f7a4 at hf
  obtain ⟨H, hH⟩ : ∃ H, H = s.heap := ⟨_, rfl⟩
  obtain ⟨locs, hlc⟩ : ∃ locs : List Loc, locs = [] := ⟨_, rfl⟩
  have hw : Wd D A s.heap H locs [] := by rw [hH, hlc]; exact hw
  have goal : W p l e rmJ6_bitCount_0f7a4 s m ([.int a0] : List Value).toArray below meth c H locs 0 0 Q (F0 m 0 ls []) := by
    clear hH hlc
    refine lv_iload_n hx hb dJ6_bitCount_0f7a4_0 rfl (lv_at hl 0 rfl) ?_
    refine lv_iload_n hx hb dJ6_bitCount_0f7a4_1 rfl (lv_at hl 0 rfl) ?_
    refine lv_iconst (v := 1) hx hb dJ6_bitCount_0f7a4_2 (by decide) ?_
    refine lv_iushr (v := (a0.toUInt32 >>> ((1 : Int32).toUInt32 &&& Int32.toUInt32 31)).toInt32) hx hb dJ6_bitCount_0f7a4_3 rfl ?_
    refine lv_ldcw hx hb hown q0 dJ6_bitCount_0f7a4_4 ?_
    refine lv_iand hx hb dJ6_bitCount_0f7a4_7 ?_
    refine lv_isub hx hb dJ6_bitCount_0f7a4_8 ?_
    obtain ⟨y1, e2, hf⟩ := bn1_e hf
    refine w_nmi (sm1 e2) ?_
    refine lv_istore_n (lv' := [(0, .int y1)]) hx hb dJ6_bitCount_0f7a4_9 rfl hl (by decide) rfl (fun ls hl => ?_)
    refine lv_iload_n hx hb dJ6_bitCount_0f7a4_10 rfl (lv_at hl 0 rfl) ?_
    refine lv_ldcw hx hb hown q1 dJ6_bitCount_0f7a4_11 ?_
    refine lv_iand hx hb dJ6_bitCount_0f7a4_14 ?_
    refine lv_iload_n hx hb dJ6_bitCount_0f7a4_15 rfl (lv_at hl 0 rfl) ?_
    refine lv_iconst (v := 2) hx hb dJ6_bitCount_0f7a4_16 (by decide) ?_
    refine lv_iushr (v := (y1.toUInt32 >>> ((2 : Int32).toUInt32 &&& Int32.toUInt32 31)).toInt32) hx hb dJ6_bitCount_0f7a4_17 rfl ?_
    refine lv_ldcw hx hb hown q1 dJ6_bitCount_0f7a4_18 ?_
    refine lv_iand hx hb dJ6_bitCount_0f7a4_21 ?_
    refine lv_iadd hx hb dJ6_bitCount_0f7a4_22 ?_
    obtain ⟨y3, e4, hf⟩ := bn1_e hf
    refine w_nmi (sm1 e4) ?_
    refine lv_istore_n (lv' := [(0, .int y3)]) hx hb dJ6_bitCount_0f7a4_23 rfl hl (by decide) rfl (fun ls hl => ?_)
    refine lv_iload_n hx hb dJ6_bitCount_0f7a4_24 rfl (lv_at hl 0 rfl) ?_
    refine lv_iload_n hx hb dJ6_bitCount_0f7a4_25 rfl (lv_at hl 0 rfl) ?_
    refine lv_iconst (v := 4) hx hb dJ6_bitCount_0f7a4_26 (by decide) ?_
    refine lv_iushr (v := (y3.toUInt32 >>> ((4 : Int32).toUInt32 &&& Int32.toUInt32 31)).toInt32) hx hb dJ6_bitCount_0f7a4_27 rfl ?_
    refine lv_iadd hx hb dJ6_bitCount_0f7a4_28 ?_
    refine lv_ldcw hx hb hown q2 dJ6_bitCount_0f7a4_29 ?_
    refine lv_iand hx hb dJ6_bitCount_0f7a4_32 ?_
    obtain ⟨y5, e6, hf⟩ := bn1_e hf
    refine w_nmi (sm1 e6) ?_
    refine lv_istore_n (lv' := [(0, .int y5)]) hx hb dJ6_bitCount_0f7a4_33 rfl hl (by decide) rfl (fun ls hl => ?_)
    refine lv_iload_n hx hb dJ6_bitCount_0f7a4_34 rfl (lv_at hl 0 rfl) ?_
    refine lv_iload_n hx hb dJ6_bitCount_0f7a4_35 rfl (lv_at hl 0 rfl) ?_
    refine lv_bipush (v := 8) hx hb dJ6_bitCount_0f7a4_36 (by decide) ?_
    refine lv_iushr (v := (y5.toUInt32 >>> ((8 : Int32).toUInt32 &&& Int32.toUInt32 31)).toInt32) hx hb dJ6_bitCount_0f7a4_38 rfl ?_
    refine lv_iadd hx hb dJ6_bitCount_0f7a4_39 ?_
    obtain ⟨y7, e8, hf⟩ := bn1_e hf
    refine w_nmi (sm1 e8) ?_
    refine lv_istore_n (lv' := [(0, .int y7)]) hx hb dJ6_bitCount_0f7a4_40 rfl hl (by decide) rfl (fun ls hl => ?_)
    refine lv_iload_n hx hb dJ6_bitCount_0f7a4_41 rfl (lv_at hl 0 rfl) ?_
    refine lv_iload_n hx hb dJ6_bitCount_0f7a4_42 rfl (lv_at hl 0 rfl) ?_
    refine lv_bipush (v := 16) hx hb dJ6_bitCount_0f7a4_43 (by decide) ?_
    refine lv_iushr (v := (y7.toUInt32 >>> ((16 : Int32).toUInt32 &&& Int32.toUInt32 31)).toInt32) hx hb dJ6_bitCount_0f7a4_45 rfl ?_
    refine lv_iadd hx hb dJ6_bitCount_0f7a4_46 ?_
    obtain ⟨y9, e10, hf⟩ := bn1_e hf
    refine w_nmi (sm1 e10) ?_
    refine lv_istore_n (lv' := [(0, .int y9)]) hx hb dJ6_bitCount_0f7a4_47 rfl hl (by decide) rfl (fun ls hl => ?_)
    refine lv_iload_n hx hb dJ6_bitCount_0f7a4_48 rfl (lv_at hl 0 rfl) ?_
    refine lv_bipush (v := 63) hx hb dJ6_bitCount_0f7a4_49 (by decide) ?_
    refine lv_iand hx hb dJ6_bitCount_0f7a4_51 ?_
    have e0_ := sm1 hf
    exact hret _ _ _ _ _ hw e0_ (Or.inl rfl) dJ6_bitCount_0f7a4_52
  rw [hH, hlc] at goal
  exact goal
abbrev rmX7_within : Room := { frames := 0, cells := 0, slots := 0, locals := 0 }
theorem hd_X7_within : yX7_within.cls ≠ "java/lang/invoke/MethodHandle" ∧ yX7_within.cls ≠ "java/lang/invoke/VarHandle" ∧ (parseMethodDescriptor yX7_within.desc).map (fun d => d.parameters.length) = some 3 := by decide +kernel
set_option maxHeartbeats 4000000 in
set_option maxRecDepth 100000 in
theorem k_X7_within (l : Launch) (D : va_G) (cA : ClassId) (a0 : Int32) (a1 : Int32) (a2 : Int32) (r : Int32) (hf : f_X7_within a0 a1 a2 = some (r)) : Mi l yX7_within wsX7_within rmX7_within D cA z_0 [.int a0, .int a1, .int a2] [] r [] := by
  refine Mi.of (cc := cX7_within) (maxL := 3) (ret := (some .boolean)) (plainFor_of_name (by decide)) rfl (Nat.le_of_ble_eq_true rfl) (Or.inr rfl) ?_
  intro p e s m below meth c A Q hx hb hml hown hts hK hA hZ hret ls hl hw
  replace hown : s.vm.findClass RX7 = some m.cls := hown
  have hl : lv_has ls 3 [(0, .int a0), (1, .int a1), (2, .int a2)] := hl
  have hZo := z_0_ok
  unfold f_X7_within at hf
  obtain ⟨H, hH⟩ : ∃ H, H = s.heap := ⟨_, rfl⟩
  obtain ⟨locs, hlc⟩ : ∃ locs : List Loc, locs = [] := ⟨_, rfl⟩
  have hw : Wd D A s.heap H locs [] := by rw [hH, hlc]; exact hw
  have goal : W p l e rmX7_within s m ([.int a0, .int a1, .int a2] : List Value).toArray below meth c H locs 0 0 Q (F0 m 0 ls []) := by
    clear hH hlc
    refine lv_iload_n hx hb dX7_within_0 rfl (lv_at hl 0 rfl) ?_
    refine lv_iload_n hx hb dX7_within_1 rfl (lv_at hl 1 rfl) ?_
    refine lv_icmp_lt (tgt := 14) hx hb dX7_within_2 (by decide) (fun c1 => ?_) (fun c1 => ?_)
    · have hf := if_t c1 hf
      refine lv_iconst (v := 0) hx hb dX7_within_14 (by decide) ?_
      have e0_ := sm1 hf
      exact hret _ _ _ _ _ hw e0_ (Or.inr (Or.inl rfl)) dX7_within_15
    · have hf := if_f c1 hf
      refine lv_iload_n hx hb dX7_within_5 rfl (lv_at hl 0 rfl) ?_
      refine lv_iload_n hx hb dX7_within_6 rfl (lv_at hl 2 rfl) ?_
      refine lv_icmp_gt (tgt := 14) hx hb dX7_within_7 (by decide) (fun c2 => ?_) (fun c2 => ?_)
      · have hf := if_t c2 hf
        refine lv_iconst (v := 0) hx hb dX7_within_14 (by decide) ?_
        have e0_ := sm1 hf
        exact hret _ _ _ _ _ hw e0_ (Or.inr (Or.inl rfl)) dX7_within_15
      · have hf := if_f c2 hf
        refine lv_iconst (v := 1) hx hb dX7_within_10 (by decide) ?_
        refine lv_goto (tgt := 15) hx hb dX7_within_11 (by decide) ?_
        have e0_ := sm1 hf
        exact hret _ _ _ _ _ hw e0_ (Or.inr (Or.inr rfl)) dX7_within_15
  rw [hH, hlc] at goal
  exact goal
abbrev rmX7_abs : Room := { frames := 0, cells := 0, slots := 0, locals := 0 }
theorem hd_X7_abs : yX7_abs.cls ≠ "java/lang/invoke/MethodHandle" ∧ yX7_abs.cls ≠ "java/lang/invoke/VarHandle" ∧ (parseMethodDescriptor yX7_abs.desc).map (fun d => d.parameters.length) = some 1 := by decide +kernel
set_option maxHeartbeats 4000000 in
set_option maxRecDepth 100000 in
theorem k_X7_abs (l : Launch) (D : va_G) (cA : ClassId) (a0 : Int32) (r : Int32) (hf : f_X7_abs a0 = some (r)) : Mi l yX7_abs wsX7_abs rmX7_abs D cA z_0 [.int a0] [] r [] := by
  refine Mi.of (cc := cX7_abs) (maxL := 1) (ret := (some .int)) (plainFor_of_name (by decide)) rfl (Nat.le_of_ble_eq_true rfl) (Or.inl rfl) ?_
  intro p e s m below meth c A Q hx hb hml hown hts hK hA hZ hret ls hl hw
  replace hown : s.vm.findClass RX7 = some m.cls := hown
  have hl : lv_has ls 1 [(0, .int a0)] := hl
  have hZo := z_0_ok
  unfold f_X7_abs at hf
  obtain ⟨H, hH⟩ : ∃ H, H = s.heap := ⟨_, rfl⟩
  obtain ⟨locs, hlc⟩ : ∃ locs : List Loc, locs = [] := ⟨_, rfl⟩
  have hw : Wd D A s.heap H locs [] := by rw [hH, hlc]; exact hw
  have goal : W p l e rmX7_abs s m ([.int a0] : List Value).toArray below meth c H locs 0 0 Q (F0 m 0 ls []) := by
    clear hH hlc
    refine lv_iload_n hx hb dX7_abs_0 rfl (lv_at hl 0 rfl) ?_
    refine lv_if_ge (tgt := 9) hx hb dX7_abs_1 (by decide) (fun c1 => ?_) (fun c1 => ?_)
    · have hf := if_t c1 hf
      refine lv_iload_n hx hb dX7_abs_9 rfl (lv_at hl 0 rfl) ?_
      have e0_ := sm1 hf
      exact hret _ _ _ _ _ hw e0_ (Or.inl rfl) dX7_abs_10
    · have hf := if_f c1 hf
      refine lv_iload_n hx hb dX7_abs_4 rfl (lv_at hl 0 rfl) ?_
      refine lv_ineg hx hb dX7_abs_5 ?_
      refine lv_goto (tgt := 10) hx hb dX7_abs_6 (by decide) ?_
      have e0_ := sm1 hf
      exact hret _ _ _ _ _ hw e0_ (Or.inl rfl) dX7_abs_10
  rw [hH, hlc] at goal
  exact goal
abbrev rmX7_size : Room := { frames := 0, cells := 0, slots := 0, locals := 0 }
theorem hd_X7_size : yX7_size.cls ≠ "java/lang/invoke/MethodHandle" ∧ yX7_size.cls ≠ "java/lang/invoke/VarHandle" ∧ (parseMethodDescriptor yX7_size.desc).map (fun d => d.parameters.length) = some 1 := by decide +kernel
set_option maxHeartbeats 4000000 in
set_option maxRecDepth 100000 in
theorem k_X7_size (l : Launch) (D : va_G) (cA : ClassId) (a0 : Int32) (r : Int32) (hf : f_X7_size a0 = some (r)) : Mi l yX7_size wsX7_size rmX7_size D cA z_0 [.int a0] [] r [] := by
  refine Mi.of (cc := cX7_size) (maxL := 3) (ret := (some .int)) (plainFor_of_name (by decide)) rfl (Nat.le_of_ble_eq_true rfl) (Or.inl rfl) ?_
  intro p e s m below meth c A Q hx hb hml hown hts hK hA hZ hret ls hl hw
  replace hown : s.vm.findClass RX7 = some m.cls := hown
  have hl : lv_has ls 3 [(0, .int a0)] := hl
  have hZo := z_0_ok
  have h_L4 : ∀ (v0 : Int32), ∀ (n : Nat) (v1 : Int32) (v2 : Int32), f_X7_size_L4 v0 n v1 v2 = some (r) → ∀ (H : Heap) (locs : List Loc) (ls : Array Slot), Wd D A s.heap H locs [] → lv_has ls 3 [(0, .int v0), (1, .int v1), (2, .int v2)] → W p l e rmX7_size s m ([.int a0] : List Value).toArray below meth c H locs 0 0 Q (F0 m 4 ls []) := by
    intro v0 n
    induction n with
    | zero =>
      intro v1 v2 hf
      have hf : none = some (r) := hf
      cases hf
    | succ n ih =>
      intro v1 v2 hf H locs ls hw hl
      have hf := (f_X7_size_L4_s v0 n v1 v2).symm.trans hf
      refine lv_iload_n hx hb dX7_size_4 rfl (lv_at hl 2 rfl) ?_
      refine lv_bipush (v := 14) hx hb dX7_size_5 (by decide) ?_
      refine lv_icmp_ge (tgt := 24) hx hb dX7_size_7 (by decide) (fun c1 => ?_) (fun c1 => ?_)
      · have hf := if_t c1 hf
        refine lv_iload_n hx hb dX7_size_24 rfl (lv_at hl 1 rfl) ?_
        have e0_ := sm1 hf
        exact hret _ _ _ _ _ hw e0_ (Or.inl rfl) dX7_size_25
      · have hf := if_f c1 hf
        refine lv_iload_n hx hb dX7_size_10 rfl (lv_at hl 1 rfl) ?_
        refine lv_iload_n hx hb dX7_size_11 rfl (lv_at hl 0 rfl) ?_
        refine lv_iload_n hx hb dX7_size_12 rfl (lv_at hl 2 rfl) ?_
        refine lv_ishr hx hb dX7_size_13 ?_
        refine lv_iconst (v := 1) hx hb dX7_size_14 (by decide) ?_
        refine lv_iand hx hb dX7_size_15 ?_
        refine lv_iadd hx hb dX7_size_16 ?_
        obtain ⟨y2, e3, hf⟩ := bn1_e hf
        refine w_nmi (sm1 e3) ?_
        refine lv_istore_n (lv' := [(1, .int y2), (0, .int v0), (2, .int v2)]) hx hb dX7_size_17 rfl hl (by decide) rfl (fun ls hl => ?_)
        refine lv_iinc (v := v2 + 1) (lv' := [(2, .int (v2 + 1)), (1, .int y2), (0, .int v0)]) hx hb dX7_size_18 hl (k := 2) rfl (by rfl) (by decide) rfl (fun ls hl => ?_)
        refine lv_goto (tgt := 4) hx hb dX7_size_21 (by decide) ?_
        exact ih y2 (v2 + 1) hf H locs ls hw (lv_sub hl [2, 1, 0] rfl)
  unfold f_X7_size at hf
  obtain ⟨H, hH⟩ : ∃ H, H = s.heap := ⟨_, rfl⟩
  obtain ⟨locs, hlc⟩ : ∃ locs : List Loc, locs = [] := ⟨_, rfl⟩
  have hw : Wd D A s.heap H locs [] := by rw [hH, hlc]; exact hw
  have goal : W p l e rmX7_size s m ([.int a0] : List Value).toArray below meth c H locs 0 0 Q (F0 m 0 ls []) := by
    clear hH hlc
    refine lv_iconst (v := 0) hx hb dX7_size_0 (by decide) ?_
    refine lv_istore_n (lv' := [(1, .int 0), (0, .int a0)]) hx hb dX7_size_1 rfl hl (by decide) rfl (fun ls hl => ?_)
    refine lv_iconst (v := 0) hx hb dX7_size_2 (by decide) ?_
    refine lv_istore_n (lv' := [(2, .int 0), (1, .int 0), (0, .int a0)]) hx hb dX7_size_3 rfl hl (by decide) rfl (fun ls hl => ?_)
    exact h_L4 a0 _ 0 0 hf H locs ls hw (lv_sub hl [2, 1, 0] rfl)
  rw [hH, hlc] at goal
  exact goal
abbrev rmX7_numberBy : Room := { frames := 1, cells := 0, slots := 0, locals := 22 }
theorem hd_X7_numberBy : yX7_numberBy.cls ≠ "java/lang/invoke/MethodHandle" ∧ yX7_numberBy.cls ≠ "java/lang/invoke/VarHandle" ∧ (parseMethodDescriptor yX7_numberBy.desc).map (fun d => d.parameters.length) = some 1 := by decide +kernel
set_option maxHeartbeats 4000000 in
set_option maxRecDepth 100000 in
theorem k_X7_numberBy (l : Launch) (D : va_G) (cA : ClassId) (a0 : Int32) (r : Int32) (hf : f_X7_numberBy a0 = some (r)) : Mi l yX7_numberBy wsX7_numberBy rmX7_numberBy D cA z_0 [.int a0] [] r [] := by
  refine Mi.of (cc := cX7_numberBy) (maxL := 1) (ret := (some .int)) (plainFor_of_name (by decide)) rfl (Nat.le_of_ble_eq_true rfl) (Or.inl rfl) ?_
  intro p e s m below meth c A Q hx hb hml hown hts hK hA hZ hret ls hl hw
  replace hown : s.vm.findClass RX7 = some m.cls := hown
  have hl : lv_has ls 1 [(0, .int a0)] := hl
  have hZo := z_0_ok
  unfold f_X7_numberBy at hf
  obtain ⟨H, hH⟩ : ∃ H, H = s.heap := ⟨_, rfl⟩
  obtain ⟨locs, hlc⟩ : ∃ locs : List Loc, locs = [] := ⟨_, rfl⟩
  have hw : Wd D A s.heap H locs [] := by rw [hH, hlc]; exact hw
  have goal : W p l e rmX7_numberBy s m ([.int a0] : List Value).toArray below meth c H locs 0 0 Q (F0 m 0 ls []) := by
    clear hH hlc
    refine lv_iload_n hx hb dX7_numberBy_0 rfl (lv_at hl 0 rfl) ?_
    refine lv_bipush (v := 48) hx hb dX7_numberBy_1 (by decide) ?_
    refine lv_bipush (v := 57) hx hb dX7_numberBy_3 (by decide) ?_
    obtain ⟨x1, g2, hf⟩ := bn1_e hf
    have fr := fr_S_S
    refine go_i (run_s (As := [.int a0, .int 48, .int 57]) (rest := []) ⟨hx, hb, hml, hown, hts⟩ (k_X7_within l D cA a0 48 57 x1 g2 H.size) (va_cwS 3 hts gX7_numberBy_X7_within rfl rfl rfl hd_X7_within ⟨Nat.le_of_ble_eq_true rfl, Nat.le_of_ble_eq_true rfl⟩) fr hw hK hA rfl hl.1 rfl (Nat.le_of_ble_eq_true rfl) dX7_numberBy_5 ⟨Nat.zero_le _, Nat.zero_le _⟩) fr hw hA (fun H locs hw => ?_)
    refine lv_if_eq (tgt := 18) hx hb dX7_numberBy_8 (by decide) (fun c3 => ?_) (fun c3 => ?_)
    · have hf := if_t c3 hf
      refine lv_iload_n hx hb dX7_numberBy_18 rfl (lv_at hl 0 rfl) ?_
      refine lv_bipush (v := 97) hx hb dX7_numberBy_19 (by decide) ?_
      refine lv_bipush (v := 117) hx hb dX7_numberBy_21 (by decide) ?_
      obtain ⟨x4, g5, hf⟩ := bn1_e hf
      have fr := fr_S_S
      refine go_i (run_s (As := [.int a0, .int 97, .int 117]) (rest := []) ⟨hx, hb, hml, hown, hts⟩ (k_X7_within l D cA a0 97 117 x4 g5 H.size) (va_cwS 3 hts gX7_numberBy_X7_within rfl rfl rfl hd_X7_within ⟨Nat.le_of_ble_eq_true rfl, Nat.le_of_ble_eq_true rfl⟩) fr hw hK hA rfl hl.1 rfl (Nat.le_of_ble_eq_true rfl) dX7_numberBy_23 ⟨Nat.zero_le _, Nat.zero_le _⟩) fr hw hA (fun H locs hw => ?_)
      refine lv_if_eq (tgt := 39) hx hb dX7_numberBy_26 (by decide) (fun c6 => ?_) (fun c6 => ?_)
      · have hf := if_t c6 hf
        refine lv_iconst (v := (-1)) hx hb dX7_numberBy_39 (by decide) ?_
        have e0_ := sm1 hf
        exact hret _ _ _ _ _ hw e0_ (Or.inl rfl) dX7_numberBy_40
      · have hf := if_f c6 hf
        refine lv_iload_n hx hb dX7_numberBy_29 rfl (lv_at hl 0 rfl) ?_
        refine lv_bipush (v := 97) hx hb dX7_numberBy_30 (by decide) ?_
        refine lv_isub hx hb dX7_numberBy_32 ?_
        refine lv_bipush (v := 10) hx hb dX7_numberBy_33 (by decide) ?_
        refine lv_iadd hx hb dX7_numberBy_35 ?_
        refine lv_goto (tgt := 40) hx hb dX7_numberBy_36 (by decide) ?_
        have e0_ := sm1 hf
        exact hret _ _ _ _ _ hw e0_ (Or.inl rfl) dX7_numberBy_40
    · have hf := if_f c3 hf
      refine lv_iload_n hx hb dX7_numberBy_11 rfl (lv_at hl 0 rfl) ?_
      refine lv_bipush (v := 48) hx hb dX7_numberBy_12 (by decide) ?_
      refine lv_isub hx hb dX7_numberBy_14 ?_
      refine lv_goto (tgt := 40) hx hb dX7_numberBy_15 (by decide) ?_
      have e0_ := sm1 hf
      exact hret _ _ _ _ _ hw e0_ (Or.inl rfl) dX7_numberBy_40
  rw [hH, hlc] at goal
  exact goal
abbrev rmX7_codeOf : Room := { frames := 0, cells := 0, slots := 0, locals := 0 }
theorem hd_X7_codeOf : yX7_codeOf.cls ≠ "java/lang/invoke/MethodHandle" ∧ yX7_codeOf.cls ≠ "java/lang/invoke/VarHandle" ∧ (parseMethodDescriptor yX7_codeOf.desc).map (fun d => d.parameters.length) = some 1 := by decide +kernel
set_option maxHeartbeats 4000000 in
set_option maxRecDepth 100000 in
theorem k_X7_codeOf (l : Launch) (D : va_G) (cA : ClassId) (a0 : Int32) (r : Int32) (hf : f_X7_codeOf a0 = some (r)) : Mi l yX7_codeOf wsX7_codeOf rmX7_codeOf D cA z_0 [.int a0] [] r [] := by
  refine Mi.of (cc := cX7_codeOf) (maxL := 1) (ret := (some .int)) (plainFor_of_name (by decide)) rfl (Nat.le_of_ble_eq_true rfl) (Or.inl rfl) ?_
  intro p e s m below meth c A Q hx hb hml hown hts hK hA hZ hret ls hl hw
  replace hown : s.vm.findClass RX7 = some m.cls := hown
  have hl : lv_has ls 1 [(0, .int a0)] := hl
  have hZo := z_0_ok
  unfold f_X7_codeOf at hf
  obtain ⟨H, hH⟩ : ∃ H, H = s.heap := ⟨_, rfl⟩
  obtain ⟨locs, hlc⟩ : ∃ locs : List Loc, locs = [] := ⟨_, rfl⟩
  have hw : Wd D A s.heap H locs [] := by rw [hH, hlc]; exact hw
  have goal : W p l e rmX7_codeOf s m ([.int a0] : List Value).toArray below meth c H locs 0 0 Q (F0 m 0 ls []) := by
    clear hH hlc
    refine lv_iload_n hx hb dX7_codeOf_0 rfl (lv_at hl 0 rfl) ?_
    refine lv_bipush (v := 10) hx hb dX7_codeOf_1 (by decide) ?_
    refine lv_icmp_ge (tgt := 13) hx hb dX7_codeOf_3 (by decide) (fun c1 => ?_) (fun c1 => ?_)
    · have hf := if_t c1 hf
      refine lv_bipush (v := 97) hx hb dX7_codeOf_13 (by decide) ?_
      refine lv_iload_n hx hb dX7_codeOf_15 rfl (lv_at hl 0 rfl) ?_
      refine lv_iadd hx hb dX7_codeOf_16 ?_
      refine lv_bipush (v := 10) hx hb dX7_codeOf_17 (by decide) ?_
      refine lv_isub hx hb dX7_codeOf_19 ?_
      have e0_ := sm1 hf
      exact hret _ _ _ _ _ hw e0_ (Or.inl rfl) dX7_codeOf_20
    · have hf := if_f c1 hf
      refine lv_bipush (v := 48) hx hb dX7_codeOf_6 (by decide) ?_
      refine lv_iload_n hx hb dX7_codeOf_8 rfl (lv_at hl 0 rfl) ?_
      refine lv_iadd hx hb dX7_codeOf_9 ?_
      refine lv_goto (tgt := 20) hx hb dX7_codeOf_10 (by decide) ?_
      have e0_ := sm1 hf
      exact hret _ _ _ _ _ hw e0_ (Or.inl rfl) dX7_codeOf_20
  rw [hH, hlc] at goal
  exact goal
abbrev rmX7_turnX : Room := { frames := 0, cells := 0, slots := 0, locals := 0 }
theorem hd_X7_turnX : yX7_turnX.cls ≠ "java/lang/invoke/MethodHandle" ∧ yX7_turnX.cls ≠ "java/lang/invoke/VarHandle" ∧ (parseMethodDescriptor yX7_turnX.desc).map (fun d => d.parameters.length) = some 1 := by decide +kernel
set_option maxHeartbeats 4000000 in
set_option maxRecDepth 100000 in
theorem k_X7_turnX (l : Launch) (D : va_G) (cA : ClassId) (a0 : Int32) (r : Int32) (hf : f_X7_turnX a0 = some (r)) : Mi l yX7_turnX wsX7_turnX rmX7_turnX D cA z_0 [.int a0] [] r [] := by
  refine Mi.of (cc := cX7_turnX) (maxL := 1) (ret := (some .int)) (plainFor_of_name (by decide)) rfl (Nat.le_of_ble_eq_true rfl) (Or.inl rfl) ?_
  intro p e s m below meth c A Q hx hb hml hown hts hK hA hZ hret ls hl hw
  replace hown : s.vm.findClass RX7 = some m.cls := hown
  have hl : lv_has ls 1 [(0, .int a0)] := hl
  have hZo := z_0_ok
  unfold f_X7_turnX at hf
  obtain ⟨H, hH⟩ : ∃ H, H = s.heap := ⟨_, rfl⟩
  obtain ⟨locs, hlc⟩ : ∃ locs : List Loc, locs = [] := ⟨_, rfl⟩
  have hw : Wd D A s.heap H locs [] := by rw [hH, hlc]; exact hw
  have goal : W p l e rmX7_turnX s m ([.int a0] : List Value).toArray below meth c H locs 0 0 Q (F0 m 0 ls []) := by
    clear hH hlc
    refine lv_iload_n hx hb dX7_turnX_0 rfl (lv_at hl 0 rfl) ?_
    refine lv_iconst (v := 2) hx hb dX7_turnX_1 (by decide) ?_
    refine lv_icmp_eq (tgt := 11) hx hb dX7_turnX_2 (by decide) (fun c1 => ?_) (fun c1 => ?_)
    · have hf := if_t c1 hf
      refine lv_iconst (v := 0) hx hb dX7_turnX_11 (by decide) ?_
      refine lv_goto (tgt := 31) hx hb dX7_turnX_12 (by decide) ?_
      have e0_ := sm1 hf
      exact hret _ _ _ _ _ hw e0_ (Or.inl rfl) dX7_turnX_31
    · have hf := if_f c1 hf
      refine lv_iload_n hx hb dX7_turnX_5 rfl (lv_at hl 0 rfl) ?_
      refine lv_bipush (v := 6) hx hb dX7_turnX_6 (by decide) ?_
      refine lv_icmp_ne (tgt := 15) hx hb dX7_turnX_8 (by decide) (fun c2 => ?_) (fun c2 => ?_)
      · have hf := if_f c2 hf
        refine lv_iload_n hx hb dX7_turnX_15 rfl (lv_at hl 0 rfl) ?_
        refine lv_iconst (v := 2) hx hb dX7_turnX_16 (by decide) ?_
        refine lv_icmp_le (tgt := 30) hx hb dX7_turnX_17 (by decide) (fun c3 => ?_) (fun c3 => ?_)
        · have hf := if_t c3 hf
          refine lv_iconst (v := 1) hx hb dX7_turnX_30 (by decide) ?_
          have e0_ := sm1 hf
          exact hret _ _ _ _ _ hw e0_ (Or.inl rfl) dX7_turnX_31
        · have hf := if_f c3 hf
          refine lv_iload_n hx hb dX7_turnX_20 rfl (lv_at hl 0 rfl) ?_
          refine lv_bipush (v := 6) hx hb dX7_turnX_21 (by decide) ?_
          refine lv_icmp_ge (tgt := 30) hx hb dX7_turnX_23 (by decide) (fun c4 => ?_) (fun c4 => ?_)
          · have hf := if_t c4 hf
            refine lv_iconst (v := 1) hx hb dX7_turnX_30 (by decide) ?_
            have e0_ := sm1 hf
            exact hret _ _ _ _ _ hw e0_ (Or.inl rfl) dX7_turnX_31
          · have hf := if_f c4 hf
            refine lv_iconst (v := (-1)) hx hb dX7_turnX_26 (by decide) ?_
            refine lv_goto (tgt := 31) hx hb dX7_turnX_27 (by decide) ?_
            have e0_ := sm1 hf
            exact hret _ _ _ _ _ hw e0_ (Or.inl rfl) dX7_turnX_31
      · have hf := if_t c2 hf
        refine lv_iconst (v := 0) hx hb dX7_turnX_11 (by decide) ?_
        refine lv_goto (tgt := 31) hx hb dX7_turnX_12 (by decide) ?_
        have e0_ := sm1 hf
        exact hret _ _ _ _ _ hw e0_ (Or.inl rfl) dX7_turnX_31
  rw [hH, hlc] at goal
  exact goal
abbrev rmX7_turnY : Room := { frames := 0, cells := 0, slots := 0, locals := 0 }
theorem hd_X7_turnY : yX7_turnY.cls ≠ "java/lang/invoke/MethodHandle" ∧ yX7_turnY.cls ≠ "java/lang/invoke/VarHandle" ∧ (parseMethodDescriptor yX7_turnY.desc).map (fun d => d.parameters.length) = some 1 := by decide +kernel
set_option maxHeartbeats 4000000 in
set_option maxRecDepth 100000 in
theorem k_X7_turnY (l : Launch) (D : va_G) (cA : ClassId) (a0 : Int32) (r : Int32) (hf : f_X7_turnY a0 = some (r)) : Mi l yX7_turnY wsX7_turnY rmX7_turnY D cA z_0 [.int a0] [] r [] := by
  refine Mi.of (cc := cX7_turnY) (maxL := 1) (ret := (some .int)) (plainFor_of_name (by decide)) rfl (Nat.le_of_ble_eq_true rfl) (Or.inl rfl) ?_
  intro p e s m below meth c A Q hx hb hml hown hts hK hA hZ hret ls hl hw
  replace hown : s.vm.findClass RX7 = some m.cls := hown
  have hl : lv_has ls 1 [(0, .int a0)] := hl
  have hZo := z_0_ok
  unfold f_X7_turnY at hf
  obtain ⟨H, hH⟩ : ∃ H, H = s.heap := ⟨_, rfl⟩
  obtain ⟨locs, hlc⟩ : ∃ locs : List Loc, locs = [] := ⟨_, rfl⟩
  have hw : Wd D A s.heap H locs [] := by rw [hH, hlc]; exact hw
  have goal : W p l e rmX7_turnY s m ([.int a0] : List Value).toArray below meth c H locs 0 0 Q (F0 m 0 ls []) := by
    clear hH hlc
    refine lv_iload_n hx hb dX7_turnY_0 rfl (lv_at hl 0 rfl) ?_
    refine lv_if_eq (tgt := 9) hx hb dX7_turnY_1 (by decide) (fun c1 => ?_) (fun c1 => ?_)
    · have hf := if_t c1 hf
      refine lv_iconst (v := 0) hx hb dX7_turnY_9 (by decide) ?_
      refine lv_goto (tgt := 23) hx hb dX7_turnY_10 (by decide) ?_
      have e0_ := sm1 hf
      exact hret _ _ _ _ _ hw e0_ (Or.inl rfl) dX7_turnY_23
    · have hf := if_f c1 hf
      refine lv_iload_n hx hb dX7_turnY_4 rfl (lv_at hl 0 rfl) ?_
      refine lv_iconst (v := 4) hx hb dX7_turnY_5 (by decide) ?_
      refine lv_icmp_ne (tgt := 13) hx hb dX7_turnY_6 (by decide) (fun c2 => ?_) (fun c2 => ?_)
      · have hf := if_f c2 hf
        refine lv_iload_n hx hb dX7_turnY_13 rfl (lv_at hl 0 rfl) ?_
        refine lv_iconst (v := 4) hx hb dX7_turnY_14 (by decide) ?_
        refine lv_icmp_ge (tgt := 22) hx hb dX7_turnY_15 (by decide) (fun c3 => ?_) (fun c3 => ?_)
        · have hf := if_t c3 hf
          refine lv_iconst (v := (-1)) hx hb dX7_turnY_22 (by decide) ?_
          have e0_ := sm1 hf
          exact hret _ _ _ _ _ hw e0_ (Or.inl rfl) dX7_turnY_23
        · have hf := if_f c3 hf
          refine lv_iconst (v := 1) hx hb dX7_turnY_18 (by decide) ?_
          refine lv_goto (tgt := 23) hx hb dX7_turnY_19 (by decide) ?_
          have e0_ := sm1 hf
          exact hret _ _ _ _ _ hw e0_ (Or.inl rfl) dX7_turnY_23
      · have hf := if_t c2 hf
        refine lv_iconst (v := 0) hx hb dX7_turnY_9 (by decide) ?_
        refine lv_goto (tgt := 23) hx hb dX7_turnY_10 (by decide) ?_
        have e0_ := sm1 hf
        exact hret _ _ _ _ _ hw e0_ (Or.inl rfl) dX7_turnY_23
  rw [hH, hlc] at goal
  exact goal
abbrev rmX7_stepsOf : Room := { frames := 0, cells := 0, slots := 0, locals := 0 }
theorem hd_X7_stepsOf : yX7_stepsOf.cls ≠ "java/lang/invoke/MethodHandle" ∧ yX7_stepsOf.cls ≠ "java/lang/invoke/VarHandle" ∧ (parseMethodDescriptor yX7_stepsOf.desc).map (fun d => d.parameters.length) = some 2 := by decide +kernel
set_option maxHeartbeats 4000000 in
set_option maxRecDepth 100000 in
theorem k_X7_stepsOf (l : Launch) (D : va_G) (cA : ClassId) (a0 : Int32) (a1 : Int32) (r : Int32) (hf : f_X7_stepsOf a0 a1 = some (r)) : Mi l yX7_stepsOf wsX7_stepsOf rmX7_stepsOf D cA z_0 [.int a0, .int a1] [] r [] := by
  refine Mi.of (cc := cX7_stepsOf) (maxL := 3) (ret := (some .int)) (plainFor_of_name (by decide)) rfl (Nat.le_of_ble_eq_true rfl) (Or.inl rfl) ?_
  intro p e s m below meth c A Q hx hb hml hown hts hK hA hZ hret ls hl hw
  replace hown : s.vm.findClass RX7 = some m.cls := hown
  have hl : lv_has ls 3 [(0, .int a0), (1, .int a1)] := hl
  have hZo := z_0_ok
  have h_L2 : ∀ (v0 : Int32) (v1 : Int32), ∀ (n : Nat) (v2 : Int32), f_X7_stepsOf_L2 v0 v1 n v2 = some (r) → ∀ (H : Heap) (locs : List Loc) (ls : Array Slot), Wd D A s.heap H locs [] → lv_has ls 3 [(0, .int v0), (1, .int v1), (2, .int v2)] → W p l e rmX7_stepsOf s m ([.int a0, .int a1] : List Value).toArray below meth c H locs 0 0 Q (F0 m 2 ls []) := by
    intro v0 v1 n
    induction n with
    | zero =>
      intro v2 hf
      have hf : none = some (r) := hf
      cases hf
    | succ n ih =>
      intro v2 hf H locs ls hw hl
      have hf := (f_X7_stepsOf_L2_s v0 v1 n v2).symm.trans hf
      refine lv_iload_n hx hb dX7_stepsOf_2 rfl (lv_at hl 0 rfl) ?_
      refine lv_iconst (v := 2) hx hb dX7_stepsOf_3 (by decide) ?_
      refine lv_irem hx hb dX7_stepsOf_4 (by decide) ?_
      refine lv_iconst (v := 1) hx hb dX7_stepsOf_5 (by decide) ?_
      refine lv_icmp_ne (tgt := 26) hx hb dX7_stepsOf_6 (by decide) (fun c1 => ?_) (fun c1 => ?_)
      · have hf := if_f c1 hf
        refine lv_iload_n hx hb dX7_stepsOf_26 rfl (lv_at hl 2 rfl) ?_
        have e0_ := sm1 hf
        exact hret _ _ _ _ _ hw e0_ (Or.inl rfl) dX7_stepsOf_27
      · have hf := if_t c1 hf
        refine lv_iconst (v := 2) hx hb dX7_stepsOf_9 (by decide) ?_
        refine lv_iload_n hx hb dX7_stepsOf_10 rfl (lv_at hl 2 rfl) ?_
        refine lv_imul hx hb dX7_stepsOf_11 ?_
        refine lv_iload_n hx hb dX7_stepsOf_12 rfl (lv_at hl 2 rfl) ?_
        refine lv_imul hx hb dX7_stepsOf_13 ?_
        refine lv_iload_n hx hb dX7_stepsOf_14 rfl (lv_at hl 1 rfl) ?_
        refine lv_iload_n hx hb dX7_stepsOf_15 rfl (lv_at hl 1 rfl) ?_
        refine lv_imul hx hb dX7_stepsOf_16 ?_
        refine lv_icmp_le (tgt := 26) hx hb dX7_stepsOf_17 (by decide) (fun c2 => ?_) (fun c2 => ?_)
        · have hf := if_t c2 hf
          refine lv_iload_n hx hb dX7_stepsOf_26 rfl (lv_at hl 2 rfl) ?_
          have e0_ := sm1 hf
          exact hret _ _ _ _ _ hw e0_ (Or.inl rfl) dX7_stepsOf_27
        · have hf := if_f c2 hf
          refine lv_iinc (v := v2 + (-1)) (lv' := [(2, .int (v2 + (-1))), (0, .int v0), (1, .int v1)]) hx hb dX7_stepsOf_20 hl (k := 2) rfl (by rfl) (by decide) rfl (fun ls hl => ?_)
          refine lv_goto (tgt := 2) hx hb dX7_stepsOf_23 (by decide) ?_
          exact ih (v2 + (-1)) hf H locs ls hw (lv_sub hl [1, 2, 0] rfl)
  unfold f_X7_stepsOf at hf
  obtain ⟨H, hH⟩ : ∃ H, H = s.heap := ⟨_, rfl⟩
  obtain ⟨locs, hlc⟩ : ∃ locs : List Loc, locs = [] := ⟨_, rfl⟩
  have hw : Wd D A s.heap H locs [] := by rw [hH, hlc]; exact hw
  have goal : W p l e rmX7_stepsOf s m ([.int a0, .int a1] : List Value).toArray below meth c H locs 0 0 Q (F0 m 0 ls []) := by
    clear hH hlc
    refine lv_iload_n hx hb dX7_stepsOf_0 rfl (lv_at hl 1 rfl) ?_
    refine lv_istore_n (lv' := [(2, .int a1), (0, .int a0), (1, .int a1)]) hx hb dX7_stepsOf_1 rfl hl (by decide) rfl (fun ls hl => ?_)
    exact h_L2 a0 a1 _ a1 hf H locs ls hw (lv_sub hl [1, 2, 0] rfl)
  rw [hH, hlc] at goal
  exact goal
abbrev rmX7_floor : Room := { frames := 0, cells := 0, slots := 0, locals := 0 }
theorem hd_X7_floor : yX7_floor.cls ≠ "java/lang/invoke/MethodHandle" ∧ yX7_floor.cls ≠ "java/lang/invoke/VarHandle" ∧ (parseMethodDescriptor yX7_floor.desc).map (fun d => d.parameters.length) = some 2 := by decide +kernel
set_option maxHeartbeats 4000000 in
set_option maxRecDepth 100000 in
theorem k_X7_floor (l : Launch) (D : va_G) (cA : ClassId) (a0 : Int64) (a2 : Int64) (r : Int32) (hf : f_X7_floor a0 a2 = some (r)) : Mi l yX7_floor wsX7_floor rmX7_floor D cA z_0 [.long a0, .long a2] [] r [] := by
  refine Mi.of (cc := cX7_floor) (maxL := 6) (ret := (some .int)) (plainFor_of_name (by decide)) rfl (Nat.le_of_ble_eq_true rfl) (Or.inl rfl) ?_
  intro p e s m below meth c A Q hx hb hml hown hts hK hA hZ hret ls hl hw
  replace hown : s.vm.findClass RX7 = some m.cls := hown
  have hl : lv_has ls 6 [(0, .long a0), (2, .long a2)] := hl
  have hZo := z_0_ok
  unfold f_X7_floor at hf
  obtain ⟨H, hH⟩ : ∃ H, H = s.heap := ⟨_, rfl⟩
  obtain ⟨locs, hlc⟩ : ∃ locs : List Loc, locs = [] := ⟨_, rfl⟩
  have hw : Wd D A s.heap H locs [] := by rw [hH, hlc]; exact hw
  have goal : W p l e rmX7_floor s m ([.long a0, .long a2] : List Value).toArray below meth c H locs 0 0 Q (F0 m 0 ls []) := by
    clear hH hlc
    refine lv_lload_n hx hb dX7_floor_0 rfl (lv_at hl 0 rfl) ?_
    refine lv_lload_n hx hb dX7_floor_1 rfl (lv_at hl 1 rfl) ?_
    obtain ⟨n1, hf⟩ := if_n hf
    refine lv_ldiv hx hb dX7_floor_2 n1 ?_
    refine lv_lstore (lv' := [(4, .long (a0 / a2)), (0, .long a0), (2, .long a2)]) hx hb dX7_floor_3 hl (by decide) rfl (fun ls hl => ?_)
    refine lv_lload hx hb dX7_floor_5 (lv_at hl 0 rfl) ?_
    refine lv_lload_n hx hb dX7_floor_7 rfl (lv_at hl 2 rfl) ?_
    refine lv_lmul hx hb dX7_floor_8 ?_
    refine lv_lload_n hx hb dX7_floor_9 rfl (lv_at hl 1 rfl) ?_
    refine W.lcmp hx hb dX7_floor_10 ?_
    refine lv_if_le (tgt := 21) hx hb dX7_floor_11 (by decide) (fun c2 => ?_) (fun c2 => ?_)
    · have hf := if_t c2 hf
      refine lv_lload hx hb dX7_floor_21 (lv_at hl 0 rfl) ?_
      refine lv_l2i (v := (a0 / a2 : Int64).toInt32) hx hb dX7_floor_23 rfl ?_
      have e0_ := sm1 hf
      exact hret _ _ _ _ _ hw e0_ (Or.inl rfl) dX7_floor_24
    · have hf := if_f c2 hf
      refine lv_lload hx hb dX7_floor_14 (lv_at hl 0 rfl) ?_
      refine lv_lconst (v := 1) hx hb dX7_floor_16 (by decide) ?_
      refine lv_lsub hx hb dX7_floor_17 ?_
      refine lv_goto (tgt := 23) hx hb dX7_floor_18 (by decide) ?_
      refine lv_l2i (v := ((a0 / a2) - 1 : Int64).toInt32) hx hb dX7_floor_23 rfl ?_
      have e0_ := sm1 hf
      exact hret _ _ _ _ _ hw e0_ (Or.inl rfl) dX7_floor_24
  rw [hH, hlc] at goal
  exact goal
abbrev rmX7_swap : Room := { frames := 0, cells := 0, slots := 0, locals := 0 }
theorem hd_X7_swap : yX7_swap.cls ≠ "java/lang/invoke/MethodHandle" ∧ yX7_swap.cls ≠ "java/lang/invoke/VarHandle" ∧ (parseMethodDescriptor yX7_swap.desc).map (fun d => d.parameters.length) = some 3 := by decide +kernel
set_option maxHeartbeats 4000000 in
set_option maxRecDepth 100000 in
theorem k_X7_swap (l : Launch) (D : va_G) (cA : ClassId) (o : Nat → Nat) (f : (Nat → Int32)) (a1 : Int32) (a2 : Int32) (f' : (Nat → Int32)) (hf : f_X7_swap f a1 a2 = some (f')) : Mv l yX7_swap wsX7_swap rmX7_swap D cA z_0 [.ref (o 0), .int a1, .int a2] [(o 0, .inl (cA, 364, .inl f))] [(o 0, .inl (cA, 364, .inl f'))] := by
  refine Mv.of (cc := cX7_swap) (maxL := 4) (by decide) rfl (Nat.le_of_ble_eq_true rfl) ?_
  intro p e s m below meth c A Q hx hb hml hown hts hK hA hZ hret ls hl hw
  replace hown : s.vm.findClass RX7 = some m.cls := hown
  have hl : lv_has ls 4 [(0, .ref (o 0)), (1, .int a1), (2, .int a2)] := hl
  have hZo := z_0_ok
  unfold f_X7_swap at hf
  obtain ⟨H, hH⟩ : ∃ H, H = s.heap := ⟨_, rfl⟩
  obtain ⟨locs, hlc⟩ : ∃ locs : List Loc, locs = [] := ⟨_, rfl⟩
  have hw : Wd D A s.heap H locs [(o 0, .inl (cA, 364, .inl f))] := by rw [hH, hlc]; exact hw
  have goal : W p l e rmX7_swap s m ([.ref (o 0), .int a1, .int a2] : List Value).toArray below meth c H locs 0 0 Q (F0 m 0 ls []) := by
    clear hH hlc
    refine lv_aload_n hx hb dX7_swap_0 rfl (lv_at hl 0 rfl) ?_
    refine lv_iload_n hx hb dX7_swap_1 rfl (lv_at hl 1 rfl) ?_
    obtain ⟨x1, g2, hf⟩ := bn1_e hf
    refine w_ald hx hb hK hw 0 rfl g2 dX7_swap_2 ?_
    refine lv_istore_n (lv' := [(3, .int x1), (0, .ref (o 0)), (1, .int a1), (2, .int a2)]) hx hb dX7_swap_3 rfl hl (by decide) rfl (fun ls hl => ?_)
    refine lv_aload_n hx hb dX7_swap_4 rfl (lv_at hl 1 rfl) ?_
    refine lv_iload_n hx hb dX7_swap_5 rfl (lv_at hl 2 rfl) ?_
    refine lv_aload_n hx hb dX7_swap_6 rfl (lv_at hl 1 rfl) ?_
    refine lv_iload_n hx hb dX7_swap_7 rfl (lv_at hl 3 rfl) ?_
    obtain ⟨x3, g4, hf⟩ := bn1_e hf
    refine w_ald hx hb hK hw 0 rfl g4 dX7_swap_8 ?_
    obtain ⟨f6, g5, hf⟩ := bn1_e hf
    refine w_ast (ws' := [(o 0, .inl (cA, 364, .inl f6))]) hx hb hK hw 0 rfl g5 rfl dX7_swap_9 (fun H locs hw => ?_)
    refine lv_aload_n hx hb dX7_swap_10 rfl (lv_at hl 1 rfl) ?_
    refine lv_iload_n hx hb dX7_swap_11 rfl (lv_at hl 3 rfl) ?_
    refine lv_iload_n hx hb dX7_swap_12 rfl (lv_at hl 0 rfl) ?_
    obtain ⟨f8, g7, hf⟩ := bn1_e hf
    refine w_ast (ws' := [(o 0, .inl (cA, 364, .inl f8))]) hx hb hK hw 0 rfl g7 rfl dX7_swap_13 (fun H locs hw => ?_)
    have e0_ := sm1 hf
    exact hret _ _ _ _ (by rw [← e0_]; exact hw) dX7_swap_14
  rw [hH, hlc] at goal
  exact goal
