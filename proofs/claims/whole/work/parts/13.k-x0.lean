abbrev rmX0_clear : Room := { frames := 0, cells := 0, slots := 0, locals := 0 }
theorem hd_X0_clear : yX0_clear.cls = RX0 ∧ yX0_clear.cls ≠ "java/lang/invoke/MethodHandle" ∧ yX0_clear.cls ≠ "java/lang/invoke/VarHandle" ∧ (parseMethodDescriptor yX0_clear.desc).map (fun d => d.parameters.length) = some 0 := by decide +kernel
set_option maxHeartbeats 4000000 in
set_option maxRecDepth 100000 in
theorem k_X0_clear (l : Launch) (D : va_G) (cA : ClassId) (tx ty : Nat) (o : Nat → Nat) (i : Nat) (oB : St) (oB' : St) (hf : f_X0_clear oB = some (oB')) : Mv l yX0_clear wsX0_clear rmX0_clear D cA (z_X tx ty) [.ref (o i)] (wX0 o i cA oB) (wX0 o i cA oB') := by
  refine Mv.of (cc := cX0_clear) (maxL := 1) (by decide) rfl (Nat.le_of_ble_eq_true rfl) ?_
  intro p e s m below meth c A Q hx hb hml hown hts hK hA hZ hret ls hl hw
  replace hown : s.vm.findClass RX0 = some m.cls := hown
  have hl : lv_has ls 1 [(0, .ref (o i))] := hl
  have hZo := z_X_ok tx ty
  have hi0 : ∀ w ∈ wsX00, w ∈ wsX0_clear := fun w h => List.mem_cons_of_mem _ (List.mem_append_right _ h)
  have q0 := hts (.fieldLink RX0 21 "ArcRings$Board" "width" "I") (by decide +kernel)
  have q1 := hts (.fieldLink RX0 25 "ArcRings$Board" "height" "I") (by decide +kernel)
  have q2 := hts (.fieldLink RX0 28 "ArcRings$Board" "dots" "I") (by decide +kernel)
  have q3 := hts (.fieldLink RX0 31 "ArcRings$Board" "low" "I") (by decide +kernel)
  have q4 := hts (.fieldLink RX0 34 "ArcRings$Board" "high" "I") (by decide +kernel)
  have q5 := hts (.fieldLink RX0 37 "ArcRings$Board" "slack" "I") (by decide +kernel)
  have q6 := hts (.fieldLink RX0 40 "ArcRings$Board" "need" "I") (by decide +kernel)
  have q7 := hts (.fieldLink RX0 43 "ArcRings$Board" "round" "I") (by decide +kernel)
  unfold f_X0_clear at hf
  obtain ⟨H, hH⟩ : ∃ H, H = s.heap := ⟨_, rfl⟩
  obtain ⟨locs, hlc⟩ : ∃ locs : List Loc, locs = [] := ⟨_, rfl⟩
  have hw : Wd D A s.heap H locs (wX0 o i cA oB) := by rw [hH, hlc]; exact hw
  have goal : W p l e rmX0_clear s m ([.ref (o i)] : List Value).toArray below meth c H locs 0 0 Q (F0 m 0 ls []) := by
    clear hH hlc
    refine lv_aload_n hx hb dX0_clear_0 rfl (lv_at hl 0 rfl) ?_
    refine lv_iconst (v := 0) hx hb dX0_clear_1 (by decide) ?_
    refine w_put (ws' := (wX0 o i cA ((sI oB 0 0)))) hx hb hts hi0 tyX0 tyX0_ok nmX0 hown hK hw 0 rfl rfl 0 (by decide) q0 rfl rfl rfl rfl (Nat.le_of_ble_eq_true rfl) rfl dX0_clear_2 (fun H locs hw => ?_)
    refine lv_aload_n hx hb dX0_clear_5 rfl (lv_at hl 0 rfl) ?_
    refine lv_iconst (v := 0) hx hb dX0_clear_6 (by decide) ?_
    refine w_put (ws' := (wX0 o i cA ((sI (sI oB 0 0) 1 0)))) hx hb hts hi0 tyX0 tyX0_ok nmX0 hown hK hw 0 rfl rfl 1 (by decide) q1 rfl rfl rfl rfl (Nat.le_of_ble_eq_true rfl) rfl dX0_clear_7 (fun H locs hw => ?_)
    refine lv_aload_n hx hb dX0_clear_10 rfl (lv_at hl 0 rfl) ?_
    refine lv_iconst (v := 0) hx hb dX0_clear_11 (by decide) ?_
    refine w_put (ws' := (wX0 o i cA ((sI (sI (sI oB 0 0) 1 0) 2 0)))) hx hb hts hi0 tyX0 tyX0_ok nmX0 hown hK hw 0 rfl rfl 2 (by decide) q2 rfl rfl rfl rfl (Nat.le_of_ble_eq_true rfl) rfl dX0_clear_12 (fun H locs hw => ?_)
    refine lv_aload_n hx hb dX0_clear_15 rfl (lv_at hl 0 rfl) ?_
    refine lv_iconst (v := 2) hx hb dX0_clear_16 (by decide) ?_
    refine w_put (ws' := (wX0 o i cA ((sI (sI (sI (sI oB 0 0) 1 0) 2 0) 3 2)))) hx hb hts hi0 tyX0 tyX0_ok nmX0 hown hK hw 0 rfl rfl 3 (by decide) q3 rfl rfl rfl rfl (Nat.le_of_ble_eq_true rfl) rfl dX0_clear_17 (fun H locs hw => ?_)
    refine lv_aload_n hx hb dX0_clear_20 rfl (lv_at hl 0 rfl) ?_
    refine lv_bipush (v := 12) hx hb dX0_clear_21 (by decide) ?_
    refine w_put (ws' := (wX0 o i cA ((sI (sI (sI (sI (sI oB 0 0) 1 0) 2 0) 3 2) 4 12)))) hx hb hts hi0 tyX0 tyX0_ok nmX0 hown hK hw 0 rfl rfl 4 (by decide) q4 rfl rfl rfl rfl (Nat.le_of_ble_eq_true rfl) rfl dX0_clear_23 (fun H locs hw => ?_)
    refine lv_aload_n hx hb dX0_clear_26 rfl (lv_at hl 0 rfl) ?_
    refine lv_iconst (v := 1) hx hb dX0_clear_27 (by decide) ?_
    refine w_put (ws' := (wX0 o i cA ((sI (sI (sI (sI (sI (sI oB 0 0) 1 0) 2 0) 3 2) 4 12) 5 1)))) hx hb hts hi0 tyX0 tyX0_ok nmX0 hown hK hw 0 rfl rfl 5 (by decide) q5 rfl rfl rfl rfl (Nat.le_of_ble_eq_true rfl) rfl dX0_clear_28 (fun H locs hw => ?_)
    refine lv_aload_n hx hb dX0_clear_31 rfl (lv_at hl 0 rfl) ?_
    refine lv_iconst (v := 4) hx hb dX0_clear_32 (by decide) ?_
    refine w_put (ws' := (wX0 o i cA ((sI (sI (sI (sI (sI (sI (sI oB 0 0) 1 0) 2 0) 3 2) 4 12) 5 1) 6 4)))) hx hb hts hi0 tyX0 tyX0_ok nmX0 hown hK hw 0 rfl rfl 6 (by decide) q6 rfl rfl rfl rfl (Nat.le_of_ble_eq_true rfl) rfl dX0_clear_33 (fun H locs hw => ?_)
    refine lv_aload_n hx hb dX0_clear_36 rfl (lv_at hl 0 rfl) ?_
    refine lv_iconst (v := 3) hx hb dX0_clear_37 (by decide) ?_
    refine w_put (ws' := (wX0 o i cA ((sI (sI (sI (sI (sI (sI (sI (sI oB 0 0) 1 0) 2 0) 3 2) 4 12) 5 1) 6 4) 7 3)))) hx hb hts hi0 tyX0 tyX0_ok nmX0 hown hK hw 0 rfl rfl 7 (by decide) q7 rfl rfl rfl rfl (Nat.le_of_ble_eq_true rfl) rfl dX0_clear_38 (fun H locs hw => ?_)
    have e0_ := sm1 hf
    exact hret _ _ _ _ (by rw [← e0_]; exact hw) dX0_clear_41
  rw [hH, hlc] at goal
  exact goal
abbrev rmX0_isColumnFull : Room := { frames := 0, cells := 0, slots := 0, locals := 0 }
theorem hd_X0_isColumnFull : yX0_isColumnFull.cls = RX0 ∧ yX0_isColumnFull.cls ≠ "java/lang/invoke/MethodHandle" ∧ yX0_isColumnFull.cls ≠ "java/lang/invoke/VarHandle" ∧ (parseMethodDescriptor yX0_isColumnFull.desc).map (fun d => d.parameters.length) = some 1 := by decide +kernel
set_option maxHeartbeats 4000000 in
set_option maxRecDepth 100000 in
theorem k_X0_isColumnFull (l : Launch) (D : va_G) (cA : ClassId) (tx ty : Nat) (o : Nat → Nat) (i : Nat) (oB : St) (a1 : Int32) (r : Int32) (hf : f_X0_isColumnFull oB a1 = some (r)) : Mi l yX0_isColumnFull wsX0_isColumnFull rmX0_isColumnFull D cA (z_X tx ty) [.ref (o i), .int a1] (wX0 o i cA oB) r (wX0 o i cA oB) := by
  refine Mi.of (cc := cX0_isColumnFull) (maxL := 4) (ret := (some .boolean)) (plainFor_of_name (by decide)) rfl (Nat.le_of_ble_eq_true rfl) (Or.inr rfl) ?_
  intro p e s m below meth c A Q hx hb hml hown hts hK hA hZ hret ls hl hw
  replace hown : s.vm.findClass RX0 = some m.cls := hown
  have hl : lv_has ls 4 [(0, .ref (o i)), (1, .int a1)] := hl
  have hZo := z_X_ok tx ty
  have hi0 : ∀ w ∈ wsX00, w ∈ wsX0_isColumnFull := fun w h => List.mem_cons_of_mem _ (List.mem_append_right _ h)
  have q0 := hts (.fieldLink RX0 28 "ArcRings$Board" "dots" "I") (by decide +kernel)
  have q1 := hts (.fieldLink RX0 9 "ArcRings$Board" "xs" "[I") (by decide +kernel)
  have q2 := hts (.fieldLink RX0 25 "ArcRings$Board" "height" "I") (by decide +kernel)
  have h_L4 : ∀ (v1 : Int32) (K : Int32 → Option (Int32)), (∀ (z0 : Int32), K z0 = some (r) → ∀ (H : Heap) (locs : List Loc) (ls : Array Slot), Wd D A s.heap H locs (wX0 o i cA oB) → lv_has ls 4 [(0, .ref (o i)), (2, .int z0)] → W p l e rmX0_isColumnFull s m ([.ref (o i), .int a1] : List Value).toArray below meth c H locs 0 0 Q (F0 m 31 ls [])) → ∀ (n : Nat) (v2 : Int32) (v3 : Int32), f_X0_isColumnFull_L4 oB v1 K n v2 v3 = some (r) → ∀ (H : Heap) (locs : List Loc) (ls : Array Slot), Wd D A s.heap H locs (wX0 o i cA oB) → lv_has ls 4 [(0, .ref (o i)), (1, .int v1), (2, .int v2), (3, .int v3)] → W p l e rmX0_isColumnFull s m ([.ref (o i), .int a1] : List Value).toArray below meth c H locs 0 0 Q (F0 m 4 ls []) := by
    intro v1 K hK9 n
    induction n with
    | zero =>
      intro v2 v3 hf
      have hf : none = some (r) := hf
      cases hf
    | succ n ih =>
      intro v2 v3 hf H locs ls hw hl
      have hf := (f_X0_isColumnFull_L4_s oB v1 K n v2 v3).symm.trans hf
      refine lv_iload_n hx hb dX0_isColumnFull_4 rfl (lv_at hl 3 rfl) ?_
      refine lv_aload_n hx hb dX0_isColumnFull_5 rfl (lv_at hl 0 rfl) ?_
      refine w_get hx hb hts hi0 hown hK hw 0 rfl rfl 2 (by decide) q0 rfl (v := .int (oB.1 2)) rfl dX0_isColumnFull_6 ?_
      refine lv_icmp_ge (tgt := 31) hx hb dX0_isColumnFull_9 (by decide) (fun c1 => ?_) (fun c1 => ?_)
      · have hf := if_t c1 hf
        exact hK9 v2 hf H locs ls hw (lv_sub hl [0, 2] rfl)
      · have hf := if_f c1 hf
        refine lv_aload_n hx hb dX0_isColumnFull_12 rfl (lv_at hl 0 rfl) ?_
        refine w_get hx hb hts hi0 hown hK hw 0 rfl rfl 8 (by decide) q1 rfl (v := .ref (o (i + 1))) rfl dX0_isColumnFull_13 ?_
        refine lv_iload_n hx hb dX0_isColumnFull_16 rfl (lv_at hl 3 rfl) ?_
        obtain ⟨x2, g3, hf⟩ := bn1_e hf
        refine w_ald hx hb hK hw 1 rfl g3 dX0_isColumnFull_17 ?_
        refine lv_iload_n hx hb dX0_isColumnFull_18 rfl (lv_at hl 1 rfl) ?_
        refine lv_icmp_ne (tgt := 25) hx hb dX0_isColumnFull_19 (by decide) (fun c4 => ?_) (fun c4 => ?_)
        · have hf := if_f c4 hf
          refine lv_iinc (v := v3 + 1) (lv' := [(3, .int (v3 + 1)), (0, .ref (o i)), (1, .int v1), (2, .int v2)]) hx hb dX0_isColumnFull_25 hl (k := 3) rfl (by rfl) (by decide) rfl (fun ls hl => ?_)
          refine lv_goto (tgt := 4) hx hb dX0_isColumnFull_28 (by decide) ?_
          exact ih v2 (v3 + 1) hf H locs ls hw (lv_sub hl [1, 2, 3, 0] rfl)
        · have hf := if_t c4 hf
          refine lv_iinc (v := v2 + 1) (lv' := [(2, .int (v2 + 1)), (0, .ref (o i)), (1, .int v1), (3, .int v3)]) hx hb dX0_isColumnFull_22 hl (k := 2) rfl (by rfl) (by decide) rfl (fun ls hl => ?_)
          refine lv_iinc (v := v3 + 1) (lv' := [(3, .int (v3 + 1)), (2, .int (v2 + 1)), (0, .ref (o i)), (1, .int v1)]) hx hb dX0_isColumnFull_25 hl (k := 3) rfl (by rfl) (by decide) rfl (fun ls hl => ?_)
          refine lv_goto (tgt := 4) hx hb dX0_isColumnFull_28 (by decide) ?_
          exact ih (v2 + 1) (v3 + 1) hf H locs ls hw (lv_sub hl [2, 3, 1, 0] rfl)
  unfold f_X0_isColumnFull at hf
  obtain ⟨H, hH⟩ : ∃ H, H = s.heap := ⟨_, rfl⟩
  obtain ⟨locs, hlc⟩ : ∃ locs : List Loc, locs = [] := ⟨_, rfl⟩
  have hw : Wd D A s.heap H locs (wX0 o i cA oB) := by rw [hH, hlc]; exact hw
  have goal : W p l e rmX0_isColumnFull s m ([.ref (o i), .int a1] : List Value).toArray below meth c H locs 0 0 Q (F0 m 0 ls []) := by
    clear hH hlc
    refine lv_iconst (v := 0) hx hb dX0_isColumnFull_0 (by decide) ?_
    refine lv_istore_n (lv' := [(2, .int 0), (0, .ref (o i)), (1, .int a1)]) hx hb dX0_isColumnFull_1 rfl hl (by decide) rfl (fun ls hl => ?_)
    refine lv_iconst (v := 0) hx hb dX0_isColumnFull_2 (by decide) ?_
    refine lv_istore_n (lv' := [(3, .int 0), (2, .int 0), (0, .ref (o i)), (1, .int a1)]) hx hb dX0_isColumnFull_3 rfl hl (by decide) rfl (fun ls hl => ?_)
    refine h_L4 a1 _ ?_ _ 0 0 hf H locs ls hw (lv_sub hl [2, 3, 1, 0] rfl)
    intro v5 hf H locs ls hw hl
    refine lv_iload_n hx hb dX0_isColumnFull_31 rfl (lv_at hl 1 rfl) ?_
    refine lv_aload_n hx hb dX0_isColumnFull_32 rfl (lv_at hl 0 rfl) ?_
    refine w_get hx hb hts hi0 hown hK hw 0 rfl rfl 1 (by decide) q2 rfl (v := .int (oB.1 1)) rfl dX0_isColumnFull_33 ?_
    refine lv_icmp_lt (tgt := 43) hx hb dX0_isColumnFull_36 (by decide) (fun c6 => ?_) (fun c6 => ?_)
    · have hf := if_t c6 hf
      refine lv_iconst (v := 0) hx hb dX0_isColumnFull_43 (by decide) ?_
      have e0_ := sm1 hf
      exact hret _ _ _ _ _ hw e0_ (Or.inr (Or.inl rfl)) dX0_isColumnFull_44
    · have hf := if_f c6 hf
      refine lv_iconst (v := 1) hx hb dX0_isColumnFull_39 (by decide) ?_
      refine lv_goto (tgt := 44) hx hb dX0_isColumnFull_40 (by decide) ?_
      have e0_ := sm1 hf
      exact hret _ _ _ _ _ hw e0_ (Or.inr (Or.inr rfl)) dX0_isColumnFull_44
  rw [hH, hlc] at goal
  exact goal
abbrev rmX0_holds : Room := { frames := 0, cells := 0, slots := 0, locals := 0 }
theorem hd_X0_holds : yX0_holds.cls = RX0 ∧ yX0_holds.cls ≠ "java/lang/invoke/MethodHandle" ∧ yX0_holds.cls ≠ "java/lang/invoke/VarHandle" ∧ (parseMethodDescriptor yX0_holds.desc).map (fun d => d.parameters.length) = some 2 := by decide +kernel
set_option maxHeartbeats 4000000 in
set_option maxRecDepth 100000 in
theorem k_X0_holds (l : Launch) (D : va_G) (cA : ClassId) (tx ty : Nat) (o : Nat → Nat) (i : Nat) (oB : St) (a1 : Int32) (a2 : Int32) (r : Int32) (hf : f_X0_holds oB a1 a2 = some (r)) : Mi l yX0_holds wsX0_holds rmX0_holds D cA (z_X tx ty) [.ref (o i), .int a1, .int a2] (wX0 o i cA oB) r (wX0 o i cA oB) := by
  refine Mi.of (cc := cX0_holds) (maxL := 3) (ret := (some .boolean)) (plainFor_of_name (by decide)) rfl (Nat.le_of_ble_eq_true rfl) (Or.inr rfl) ?_
  intro p e s m below meth c A Q hx hb hml hown hts hK hA hZ hret ls hl hw
  replace hown : s.vm.findClass RX0 = some m.cls := hown
  have hl : lv_has ls 3 [(0, .ref (o i)), (1, .int a1), (2, .int a2)] := hl
  have hZo := z_X_ok tx ty
  have hi0 : ∀ w ∈ wsX00, w ∈ wsX0_holds := fun w h => List.mem_cons_of_mem _ (List.mem_append_right _ h)
  have q0 := hts (.fieldLink RX0 21 "ArcRings$Board" "width" "I") (by decide +kernel)
  have q1 := hts (.fieldLink RX0 25 "ArcRings$Board" "height" "I") (by decide +kernel)
  unfold f_X0_holds at hf
  obtain ⟨H, hH⟩ : ∃ H, H = s.heap := ⟨_, rfl⟩
  obtain ⟨locs, hlc⟩ : ∃ locs : List Loc, locs = [] := ⟨_, rfl⟩
  have hw : Wd D A s.heap H locs (wX0 o i cA oB) := by rw [hH, hlc]; exact hw
  have goal : W p l e rmX0_holds s m ([.ref (o i), .int a1, .int a2] : List Value).toArray below meth c H locs 0 0 Q (F0 m 0 ls []) := by
    clear hH hlc
    refine lv_iload_n hx hb dX0_holds_0 rfl (lv_at hl 1 rfl) ?_
    refine lv_if_lt (tgt := 28) hx hb dX0_holds_1 (by decide) (fun c1 => ?_) (fun c1 => ?_)
    · have hf := if_t c1 hf
      refine lv_iconst (v := 0) hx hb dX0_holds_28 (by decide) ?_
      have e0_ := sm1 hf
      exact hret _ _ _ _ _ hw e0_ (Or.inr (Or.inl rfl)) dX0_holds_29
    · have hf := if_f c1 hf
      refine lv_iload_n hx hb dX0_holds_4 rfl (lv_at hl 1 rfl) ?_
      refine lv_aload_n hx hb dX0_holds_5 rfl (lv_at hl 0 rfl) ?_
      refine w_get hx hb hts hi0 hown hK hw 0 rfl rfl 0 (by decide) q0 rfl (v := .int (oB.1 0)) rfl dX0_holds_6 ?_
      refine lv_icmp_ge (tgt := 28) hx hb dX0_holds_9 (by decide) (fun c2 => ?_) (fun c2 => ?_)
      · have hf := if_t c2 hf
        refine lv_iconst (v := 0) hx hb dX0_holds_28 (by decide) ?_
        have e0_ := sm1 hf
        exact hret _ _ _ _ _ hw e0_ (Or.inr (Or.inl rfl)) dX0_holds_29
      · have hf := if_f c2 hf
        refine lv_iload_n hx hb dX0_holds_12 rfl (lv_at hl 2 rfl) ?_
        refine lv_if_lt (tgt := 28) hx hb dX0_holds_13 (by decide) (fun c3 => ?_) (fun c3 => ?_)
        · have hf := if_t c3 hf
          refine lv_iconst (v := 0) hx hb dX0_holds_28 (by decide) ?_
          have e0_ := sm1 hf
          exact hret _ _ _ _ _ hw e0_ (Or.inr (Or.inl rfl)) dX0_holds_29
        · have hf := if_f c3 hf
          refine lv_iload_n hx hb dX0_holds_16 rfl (lv_at hl 2 rfl) ?_
          refine lv_aload_n hx hb dX0_holds_17 rfl (lv_at hl 0 rfl) ?_
          refine w_get hx hb hts hi0 hown hK hw 0 rfl rfl 1 (by decide) q1 rfl (v := .int (oB.1 1)) rfl dX0_holds_18 ?_
          refine lv_icmp_ge (tgt := 28) hx hb dX0_holds_21 (by decide) (fun c4 => ?_) (fun c4 => ?_)
          · have hf := if_t c4 hf
            refine lv_iconst (v := 0) hx hb dX0_holds_28 (by decide) ?_
            have e0_ := sm1 hf
            exact hret _ _ _ _ _ hw e0_ (Or.inr (Or.inl rfl)) dX0_holds_29
          · have hf := if_f c4 hf
            refine lv_iconst (v := 1) hx hb dX0_holds_24 (by decide) ?_
            refine lv_goto (tgt := 29) hx hb dX0_holds_25 (by decide) ?_
            have e0_ := sm1 hf
            exact hret _ _ _ _ _ hw e0_ (Or.inr (Or.inr rfl)) dX0_holds_29
  rw [hH, hlc] at goal
  exact goal
abbrev rmX0_isTaken : Room := { frames := 0, cells := 0, slots := 0, locals := 0 }
theorem hd_X0_isTaken : yX0_isTaken.cls = RX0 ∧ yX0_isTaken.cls ≠ "java/lang/invoke/MethodHandle" ∧ yX0_isTaken.cls ≠ "java/lang/invoke/VarHandle" ∧ (parseMethodDescriptor yX0_isTaken.desc).map (fun d => d.parameters.length) = some 2 := by decide +kernel
set_option maxHeartbeats 4000000 in
set_option maxRecDepth 100000 in
theorem k_X0_isTaken (l : Launch) (D : va_G) (cA : ClassId) (tx ty : Nat) (o : Nat → Nat) (i : Nat) (oB : St) (a1 : Int32) (a2 : Int32) (r : Int32) (hf : f_X0_isTaken oB a1 a2 = some (r)) : Mi l yX0_isTaken wsX0_isTaken rmX0_isTaken D cA (z_X tx ty) [.ref (o i), .int a1, .int a2] (wX0 o i cA oB) r (wX0 o i cA oB) := by
  refine Mi.of (cc := cX0_isTaken) (maxL := 4) (ret := (some .boolean)) (plainFor_of_name (by decide)) rfl (Nat.le_of_ble_eq_true rfl) (Or.inr rfl) ?_
  intro p e s m below meth c A Q hx hb hml hown hts hK hA hZ hret ls hl hw
  replace hown : s.vm.findClass RX0 = some m.cls := hown
  have hl : lv_has ls 4 [(0, .ref (o i)), (1, .int a1), (2, .int a2)] := hl
  have hZo := z_X_ok tx ty
  have hi0 : ∀ w ∈ wsX00, w ∈ wsX0_isTaken := fun w h => List.mem_cons_of_mem _ (List.mem_append_right _ h)
  have q0 := hts (.fieldLink RX0 28 "ArcRings$Board" "dots" "I") (by decide +kernel)
  have q1 := hts (.fieldLink RX0 9 "ArcRings$Board" "xs" "[I") (by decide +kernel)
  have q2 := hts (.fieldLink RX0 15 "ArcRings$Board" "ys" "[I") (by decide +kernel)
  have h_L2 : ∀ (v1 : Int32) (v2 : Int32), ∀ (n : Nat) (v3 : Int32), f_X0_isTaken_L2 oB v1 v2 n v3 = some (r) → ∀ (H : Heap) (locs : List Loc) (ls : Array Slot), Wd D A s.heap H locs (wX0 o i cA oB) → lv_has ls 4 [(0, .ref (o i)), (1, .int v1), (2, .int v2), (3, .int v3)] → W p l e rmX0_isTaken s m ([.ref (o i), .int a1, .int a2] : List Value).toArray below meth c H locs 0 0 Q (F0 m 2 ls []) := by
    intro v1 v2 n
    induction n with
    | zero =>
      intro v3 hf
      have hf : none = some (r) := hf
      cases hf
    | succ n ih =>
      intro v3 hf H locs ls hw hl
      have hf := (f_X0_isTaken_L2_s oB v1 v2 n v3).symm.trans hf
      refine lv_iload_n hx hb dX0_isTaken_2 rfl (lv_at hl 3 rfl) ?_
      refine lv_aload_n hx hb dX0_isTaken_3 rfl (lv_at hl 0 rfl) ?_
      refine w_get hx hb hts hi0 hown hK hw 0 rfl rfl 2 (by decide) q0 rfl (v := .int (oB.1 2)) rfl dX0_isTaken_4 ?_
      refine lv_icmp_ge (tgt := 38) hx hb dX0_isTaken_7 (by decide) (fun c1 => ?_) (fun c1 => ?_)
      · have hf := if_t c1 hf
        refine lv_iconst (v := 0) hx hb dX0_isTaken_38 (by decide) ?_
        have e0_ := sm1 hf
        exact hret _ _ _ _ _ hw e0_ (Or.inr (Or.inl rfl)) dX0_isTaken_39
      · have hf := if_f c1 hf
        refine lv_aload_n hx hb dX0_isTaken_10 rfl (lv_at hl 0 rfl) ?_
        refine w_get hx hb hts hi0 hown hK hw 0 rfl rfl 8 (by decide) q1 rfl (v := .ref (o (i + 1))) rfl dX0_isTaken_11 ?_
        refine lv_iload_n hx hb dX0_isTaken_14 rfl (lv_at hl 3 rfl) ?_
        obtain ⟨x2, g3, hf⟩ := bn1_e hf
        refine w_ald hx hb hK hw 1 rfl g3 dX0_isTaken_15 ?_
        refine lv_iload_n hx hb dX0_isTaken_16 rfl (lv_at hl 1 rfl) ?_
        refine lv_icmp_ne (tgt := 32) hx hb dX0_isTaken_17 (by decide) (fun c4 => ?_) (fun c4 => ?_)
        · have hf := if_f c4 hf
          refine lv_iinc (v := v3 + 1) (lv' := [(3, .int (v3 + 1)), (0, .ref (o i)), (1, .int v1), (2, .int v2)]) hx hb dX0_isTaken_32 hl (k := 3) rfl (by rfl) (by decide) rfl (fun ls hl => ?_)
          refine lv_goto (tgt := 2) hx hb dX0_isTaken_35 (by decide) ?_
          exact ih (v3 + 1) hf H locs ls hw (lv_sub hl [1, 2, 3, 0] rfl)
        · have hf := if_t c4 hf
          refine lv_aload_n hx hb dX0_isTaken_20 rfl (lv_at hl 0 rfl) ?_
          refine w_get hx hb hts hi0 hown hK hw 0 rfl rfl 9 (by decide) q2 rfl (v := .ref (o (i + 2))) rfl dX0_isTaken_21 ?_
          refine lv_iload_n hx hb dX0_isTaken_24 rfl (lv_at hl 3 rfl) ?_
          obtain ⟨x5, g6, hf⟩ := bn1_e hf
          refine w_ald hx hb hK hw 2 rfl g6 dX0_isTaken_25 ?_
          refine lv_iload_n hx hb dX0_isTaken_26 rfl (lv_at hl 2 rfl) ?_
          refine lv_icmp_ne (tgt := 32) hx hb dX0_isTaken_27 (by decide) (fun c7 => ?_) (fun c7 => ?_)
          · have hf := if_f c7 hf
            refine lv_iinc (v := v3 + 1) (lv' := [(3, .int (v3 + 1)), (0, .ref (o i)), (1, .int v1), (2, .int v2)]) hx hb dX0_isTaken_32 hl (k := 3) rfl (by rfl) (by decide) rfl (fun ls hl => ?_)
            refine lv_goto (tgt := 2) hx hb dX0_isTaken_35 (by decide) ?_
            exact ih (v3 + 1) hf H locs ls hw (lv_sub hl [1, 2, 3, 0] rfl)
          · have hf := if_t c7 hf
            refine lv_iconst (v := 1) hx hb dX0_isTaken_30 (by decide) ?_
            have e0_ := sm1 hf
            exact hret _ _ _ _ _ hw e0_ (Or.inr (Or.inr rfl)) dX0_isTaken_31
  unfold f_X0_isTaken at hf
  obtain ⟨H, hH⟩ : ∃ H, H = s.heap := ⟨_, rfl⟩
  obtain ⟨locs, hlc⟩ : ∃ locs : List Loc, locs = [] := ⟨_, rfl⟩
  have hw : Wd D A s.heap H locs (wX0 o i cA oB) := by rw [hH, hlc]; exact hw
  have goal : W p l e rmX0_isTaken s m ([.ref (o i), .int a1, .int a2] : List Value).toArray below meth c H locs 0 0 Q (F0 m 0 ls []) := by
    clear hH hlc
    refine lv_iconst (v := 0) hx hb dX0_isTaken_0 (by decide) ?_
    refine lv_istore_n (lv' := [(3, .int 0), (0, .ref (o i)), (1, .int a1), (2, .int a2)]) hx hb dX0_isTaken_1 rfl hl (by decide) rfl (fun ls hl => ?_)
    exact h_L2 a1 a2 _ 0 hf H locs ls hw (lv_sub hl [1, 2, 3, 0] rfl)
  rw [hH, hlc] at goal
  exact goal
abbrev rmX0_add : Room := { frames := 1, cells := 0, slots := 0, locals := 23 }
theorem hd_X0_add : yX0_add.cls = RX0 ∧ yX0_add.cls ≠ "java/lang/invoke/MethodHandle" ∧ yX0_add.cls ≠ "java/lang/invoke/VarHandle" ∧ (parseMethodDescriptor yX0_add.desc).map (fun d => d.parameters.length) = some 3 := by decide +kernel
set_option maxHeartbeats 4000000 in
set_option maxRecDepth 100000 in
theorem k_X0_add (l : Launch) (D : va_G) (cA : ClassId) (tx ty : Nat) (o : Nat → Nat) (i : Nat) (oB : St) (a1 : Int32) (a2 : Int32) (a3 : Int32) (r : Int32) (oB' : St) (hf : f_X0_add oB a1 a2 a3 = some (r, oB')) : Mi l yX0_add wsX0_add rmX0_add D cA (z_X tx ty) [.ref (o i), .int a1, .int a2, .int a3] (wX0 o i cA oB) r (wX0 o i cA oB') := by
  refine Mi.of (cc := cX0_add) (maxL := 4) (ret := (some .boolean)) (plainFor_of_name (by decide)) rfl (Nat.le_of_ble_eq_true rfl) (Or.inr rfl) ?_
  intro p e s m below meth c A Q hx hb hml hown hts hK hA hZ hret ls hl hw
  replace hown : s.vm.findClass RX0 = some m.cls := hown
  have hl : lv_has ls 4 [(0, .ref (o i)), (1, .int a1), (2, .int a2), (3, .int a3)] := hl
  have hZo := z_X_ok tx ty
  have hi0 : ∀ w ∈ wsX00, w ∈ wsX0_add := fun w h => List.mem_cons_of_mem _ (List.mem_append_right _ h)
  have q0 := hts (.fieldLink RX0 28 "ArcRings$Board" "dots" "I") (by decide +kernel)
  have q1 := hts (.fieldLink RX0 9 "ArcRings$Board" "xs" "[I") (by decide +kernel)
  have q2 := hts (.fieldLink RX0 15 "ArcRings$Board" "ys" "[I") (by decide +kernel)
  have q3 := hts (.fieldLink RX0 18 "ArcRings$Board" "turns" "[I") (by decide +kernel)
  unfold f_X0_add at hf
  obtain ⟨H, hH⟩ : ∃ H, H = s.heap := ⟨_, rfl⟩
  obtain ⟨locs, hlc⟩ : ∃ locs : List Loc, locs = [] := ⟨_, rfl⟩
  have hw : Wd D A s.heap H locs (wX0 o i cA oB) := by rw [hH, hlc]; exact hw
  have goal : W p l e rmX0_add s m ([.ref (o i), .int a1, .int a2, .int a3] : List Value).toArray below meth c H locs 0 0 Q (F0 m 0 ls []) := by
    clear hH hlc
    refine lv_aload_n hx hb dX0_add_0 rfl (lv_at hl 0 rfl) ?_
    refine lv_iload_n hx hb dX0_add_1 rfl (lv_at hl 1 rfl) ?_
    refine lv_iload_n hx hb dX0_add_2 rfl (lv_at hl 2 rfl) ?_
    obtain ⟨x1, g2, hf⟩ := bn1_e hf
    have fr := fr_X0_X0_oB o i cA oB oB
    refine go_i (run_v (As := [.int a1, .int a2]) (rest := []) ⟨hx, hb, hml, hown, hts⟩ (k_X0_holds l D cA tx ty o i oB a1 a2 x1 g2 H.size) (cwV 2 hts gX0_add_X0_holds rfl rfl rfl hd_X0_holds ⟨Nat.le_of_ble_eq_true rfl, Nat.le_of_ble_eq_true rfl⟩) fr hw hK hA hZo hZ (ci := 0) rfl rfl rfl rfl hl.1 rfl (Nat.le_of_ble_eq_true rfl) dX0_add_3 ⟨Nat.zero_le _, Nat.zero_le _⟩) fr hw hA (fun H locs hw => ?_)
    refine lv_if_eq (tgt := 27) hx hb dX0_add_6 (by decide) (fun c3 => ?_) (fun c3 => ?_)
    · have hf := if_t c3 hf
      refine lv_iconst (v := 0) hx hb dX0_add_27 (by decide) ?_
      obtain ⟨e0_, e1_⟩ := sm2 hf
      exact hret _ _ _ _ _ (by rw [← e1_]; exact hw) e0_ (Or.inr (Or.inl rfl)) dX0_add_28
    · have hf := if_f c3 hf
      refine lv_aload_n hx hb dX0_add_9 rfl (lv_at hl 0 rfl) ?_
      refine lv_iload_n hx hb dX0_add_10 rfl (lv_at hl 1 rfl) ?_
      refine lv_iload_n hx hb dX0_add_11 rfl (lv_at hl 2 rfl) ?_
      obtain ⟨x4, g5, hf⟩ := bn1_e hf
      have fr := fr_X0_X0_oB o i cA oB oB
      refine go_i (run_v (As := [.int a1, .int a2]) (rest := []) ⟨hx, hb, hml, hown, hts⟩ (k_X0_isTaken l D cA tx ty o i oB a1 a2 x4 g5 H.size) (cwV 2 hts gX0_add_X0_isTaken rfl rfl rfl hd_X0_isTaken ⟨Nat.le_of_ble_eq_true rfl, Nat.le_of_ble_eq_true rfl⟩) fr hw hK hA hZo hZ (ci := 0) rfl rfl rfl rfl hl.1 rfl (Nat.le_of_ble_eq_true rfl) dX0_add_12 ⟨Nat.zero_le _, Nat.zero_le _⟩) fr hw hA (fun H locs hw => ?_)
      refine lv_if_ne (tgt := 27) hx hb dX0_add_15 (by decide) (fun c6 => ?_) (fun c6 => ?_)
      · have hf := if_f c6 hf
        refine lv_iconst (v := 0) hx hb dX0_add_27 (by decide) ?_
        obtain ⟨e0_, e1_⟩ := sm2 hf
        exact hret _ _ _ _ _ (by rw [← e1_]; exact hw) e0_ (Or.inr (Or.inl rfl)) dX0_add_28
      · have hf := if_t c6 hf
        refine lv_aload_n hx hb dX0_add_18 rfl (lv_at hl 0 rfl) ?_
        refine w_get hx hb hts hi0 hown hK hw 0 rfl rfl 2 (by decide) q0 rfl (v := .int (oB.1 2)) rfl dX0_add_19 ?_
        refine lv_bipush (v := 14) hx hb dX0_add_22 (by decide) ?_
        refine lv_icmp_lt (tgt := 29) hx hb dX0_add_24 (by decide) (fun c7 => ?_) (fun c7 => ?_)
        · have hf := if_t c7 hf
          refine lv_aload_n hx hb dX0_add_29 rfl (lv_at hl 0 rfl) ?_
          refine w_get hx hb hts hi0 hown hK hw 0 rfl rfl 8 (by decide) q1 rfl (v := .ref (o (i + 1))) rfl dX0_add_30 ?_
          refine lv_aload_n hx hb dX0_add_33 rfl (lv_at hl 0 rfl) ?_
          refine w_get hx hb hts hi0 hown hK hw 0 rfl rfl 2 (by decide) q0 rfl (v := .int (oB.1 2)) rfl dX0_add_34 ?_
          refine lv_iload_n hx hb dX0_add_37 rfl (lv_at hl 1 rfl) ?_
          obtain ⟨oB9, g8, hf⟩ := bn1_e hf
          refine w_aws hx hb hK hw 1 rfl g8 (fun z => (wX0 o i cA z)) (fun _ => rfl) dX0_add_38 (fun H locs hw => ?_)
          refine lv_aload_n hx hb dX0_add_39 rfl (lv_at hl 0 rfl) ?_
          refine w_get hx hb hts hi0 hown hK hw 0 rfl rfl 9 (by decide) q2 rfl (v := .ref (o (i + 2))) rfl dX0_add_40 ?_
          refine lv_aload_n hx hb dX0_add_43 rfl (lv_at hl 0 rfl) ?_
          refine w_get hx hb hts hi0 hown hK hw 0 rfl rfl 2 (by decide) q0 rfl (v := .int (oB9.1 2)) rfl dX0_add_44 ?_
          refine lv_iload_n hx hb dX0_add_47 rfl (lv_at hl 2 rfl) ?_
          obtain ⟨oB11, g10, hf⟩ := bn1_e hf
          refine w_aws hx hb hK hw 2 rfl g10 (fun z => (wX0 o i cA z)) (fun _ => rfl) dX0_add_48 (fun H locs hw => ?_)
          refine lv_aload_n hx hb dX0_add_49 rfl (lv_at hl 0 rfl) ?_
          refine w_get hx hb hts hi0 hown hK hw 0 rfl rfl 10 (by decide) q3 rfl (v := .ref (o (i + 3))) rfl dX0_add_50 ?_
          refine lv_aload_n hx hb dX0_add_53 rfl (lv_at hl 0 rfl) ?_
          refine w_get hx hb hts hi0 hown hK hw 0 rfl rfl 2 (by decide) q0 rfl (v := .int (oB11.1 2)) rfl dX0_add_54 ?_
          refine lv_iload_n hx hb dX0_add_57 rfl (lv_at hl 3 rfl) ?_
          obtain ⟨oB13, g12, hf⟩ := bn1_e hf
          refine w_aws hx hb hK hw 3 rfl g12 (fun z => (wX0 o i cA z)) (fun _ => rfl) dX0_add_58 (fun H locs hw => ?_)
          refine lv_aload_n hx hb dX0_add_59 rfl (lv_at hl 0 rfl) ?_
          refine lv_dup hx hb dX0_add_60 rfl ?_
          refine w_get hx hb hts hi0 hown hK hw 0 rfl rfl 2 (by decide) q0 rfl (v := .int (oB13.1 2)) rfl dX0_add_61 ?_
          refine lv_iconst (v := 1) hx hb dX0_add_64 (by decide) ?_
          refine lv_iadd hx hb dX0_add_65 ?_
          refine w_put (ws' := (wX0 o i cA ((sI oB13 2 ((oB13.1 2) + 1))))) hx hb hts hi0 tyX0 tyX0_ok nmX0 hown hK hw 0 rfl rfl 2 (by decide) q0 rfl rfl rfl rfl (Nat.le_of_ble_eq_true rfl) rfl dX0_add_66 (fun H locs hw => ?_)
          refine lv_iconst (v := 1) hx hb dX0_add_69 (by decide) ?_
          obtain ⟨e0_, e1_⟩ := sm2 hf
          exact hret _ _ _ _ _ (by rw [← e1_]; exact hw) e0_ (Or.inr (Or.inr rfl)) dX0_add_70
        · have hf := if_f c7 hf
          refine lv_iconst (v := 0) hx hb dX0_add_27 (by decide) ?_
          obtain ⟨e0_, e1_⟩ := sm2 hf
          exact hret _ _ _ _ _ (by rw [← e1_]; exact hw) e0_ (Or.inr (Or.inl rfl)) dX0_add_28
  rw [hH, hlc] at goal
  exact goal
abbrev rmX0_become : Room := { frames := 2, cells := 0, slots := 0, locals := 46 }
theorem hd_X0_become : yX0_become.cls = RX0 ∧ yX0_become.cls ≠ "java/lang/invoke/MethodHandle" ∧ yX0_become.cls ≠ "java/lang/invoke/VarHandle" ∧ (parseMethodDescriptor yX0_become.desc).map (fun d => d.parameters.length) = some 1 := by decide +kernel
set_option maxHeartbeats 4000000 in
set_option maxRecDepth 100000 in
theorem k_X0_become (l : Launch) (D : va_G) (cA : ClassId) (tx ty : Nat) (o : Nat → Nat) (i : Nat) (j : Nat) (oB : St) (oE : St) (oB' : St) (hf : f_X0_become oB oE = some (oB')) : Mv l yX0_become wsX0_become rmX0_become D cA (z_X tx ty) [.ref (o i), .ref (o j)] (wX0 o i cA oB ++ wX0 o j cA oE) (wX0 o i cA oB' ++ wX0 o j cA oE) := by
  refine Mv.of (cc := cX0_become) (maxL := 3) (by decide) rfl (Nat.le_of_ble_eq_true rfl) ?_
  intro p e s m below meth c A Q hx hb hml hown hts hK hA hZ hret ls hl hw
  replace hown : s.vm.findClass RX0 = some m.cls := hown
  have hl : lv_has ls 3 [(0, .ref (o i)), (1, .ref (o j))] := hl
  have hZo := z_X_ok tx ty
  have hi0 : ∀ w ∈ wsX00, w ∈ wsX0_become := fun w h => List.mem_cons_of_mem _ (List.mem_append_right _ h)
  have q0 := hts (.fieldLink RX0 21 "ArcRings$Board" "width" "I") (by decide +kernel)
  have q1 := hts (.fieldLink RX0 25 "ArcRings$Board" "height" "I") (by decide +kernel)
  have q2 := hts (.fieldLink RX0 28 "ArcRings$Board" "dots" "I") (by decide +kernel)
  have q3 := hts (.fieldLink RX0 9 "ArcRings$Board" "xs" "[I") (by decide +kernel)
  have q4 := hts (.fieldLink RX0 15 "ArcRings$Board" "ys" "[I") (by decide +kernel)
  have q5 := hts (.fieldLink RX0 18 "ArcRings$Board" "turns" "[I") (by decide +kernel)
  have h_L22 : ∀ (n : Nat) (v2 : Int32) (oB : St), f_X0_become_L22 oE n v2 oB = some (oB') → ∀ (H : Heap) (locs : List Loc) (ls : Array Slot), Wd D A s.heap H locs (wX0 o i cA oB ++ wX0 o j cA oE) → lv_has ls 3 [(0, .ref (o i)), (1, .ref (o j)), (2, .int v2)] → W p l e rmX0_become s m ([.ref (o i), .ref (o j)] : List Value).toArray below meth c H locs 0 0 Q (F0 m 22 ls []) := by
    intro n
    induction n with
    | zero =>
      intro v2 oB hf
      have hf : none = some (oB') := hf
      cases hf
    | succ n ih =>
      intro v2 oB hf H locs ls hw hl
      have hf := (f_X0_become_L22_s oE n v2 oB).symm.trans hf
      refine lv_iload_n hx hb dX0_become_22 rfl (lv_at hl 2 rfl) ?_
      refine lv_aload_n hx hb dX0_become_23 rfl (lv_at hl 1 rfl) ?_
      refine w_get hx hb hts hi0 hown hK hw 4 rfl rfl 2 (by decide) q2 rfl (v := .int (oE.1 2)) rfl dX0_become_24 ?_
      refine lv_icmp_ge (tgt := 59) hx hb dX0_become_27 (by decide) (fun c3 => ?_) (fun c3 => ?_)
      · have hf := if_t c3 hf
        have e0_ := sm1 hf
        exact hret _ _ _ _ (by rw [← e0_]; exact hw) dX0_become_59
      · have hf := if_f c3 hf
        refine lv_aload_n hx hb dX0_become_30 rfl (lv_at hl 0 rfl) ?_
        refine lv_aload_n hx hb dX0_become_31 rfl (lv_at hl 1 rfl) ?_
        refine w_get hx hb hts hi0 hown hK hw 4 rfl rfl 8 (by decide) q3 rfl (v := .ref (o (j + 1))) rfl dX0_become_32 ?_
        refine lv_iload_n hx hb dX0_become_35 rfl (lv_at hl 2 rfl) ?_
        obtain ⟨x4, g5, hf⟩ := bn1_e hf
        refine w_ald hx hb hK hw 5 rfl g5 dX0_become_36 ?_
        refine lv_aload_n hx hb dX0_become_37 rfl (lv_at hl 1 rfl) ?_
        refine w_get hx hb hts hi0 hown hK hw 4 rfl rfl 9 (by decide) q4 rfl (v := .ref (o (j + 2))) rfl dX0_become_38 ?_
        refine lv_iload_n hx hb dX0_become_41 rfl (lv_at hl 2 rfl) ?_
        obtain ⟨x6, g7, hf⟩ := bn1_e hf
        refine w_ald hx hb hK hw 6 rfl g7 dX0_become_42 ?_
        refine lv_aload_n hx hb dX0_become_43 rfl (lv_at hl 1 rfl) ?_
        refine w_get hx hb hts hi0 hown hK hw 4 rfl rfl 10 (by decide) q5 rfl (v := .ref (o (j + 3))) rfl dX0_become_44 ?_
        refine lv_iload_n hx hb dX0_become_47 rfl (lv_at hl 2 rfl) ?_
        obtain ⟨x8, g9, hf⟩ := bn1_e hf
        refine w_ald hx hb hK hw 7 rfl g9 dX0_become_48 ?_
        obtain ⟨x10, oB11, g12, hf⟩ := bn2_e hf
        have fr := fr_X0_become_X0_oB o i j cA oB oE oB11
        refine go_i (run_v (As := [.int x4, .int x6, .int x8]) (rest := []) ⟨hx, hb, hml, hown, hts⟩ (k_X0_add l D cA tx ty o i oB x4 x6 x8 x10 oB11 g12 H.size) (cwV 3 hts gX0_become_X0_add rfl rfl rfl hd_X0_add ⟨Nat.le_of_ble_eq_true rfl, Nat.le_of_ble_eq_true rfl⟩) fr hw hK hA hZo hZ (ci := 0) rfl rfl rfl rfl hl.1 rfl (Nat.le_of_ble_eq_true rfl) dX0_become_49 ⟨Nat.zero_le _, Nat.zero_le _⟩) fr hw hA (fun H locs hw => ?_)
        refine lv_pop hx hb dX0_become_52 rfl ?_
        refine lv_iinc (v := v2 + 1) (lv' := [(2, .int (v2 + 1)), (0, .ref (o i)), (1, .ref (o j))]) hx hb dX0_become_53 hl (k := 2) rfl (by rfl) (by decide) rfl (fun ls hl => ?_)
        refine lv_goto (tgt := 22) hx hb dX0_become_56 (by decide) ?_
        exact ih (v2 + 1) oB11 hf H locs ls hw (lv_sub hl [1, 2, 0] rfl)
  unfold f_X0_become at hf
  obtain ⟨H, hH⟩ : ∃ H, H = s.heap := ⟨_, rfl⟩
  obtain ⟨locs, hlc⟩ : ∃ locs : List Loc, locs = [] := ⟨_, rfl⟩
  have hw : Wd D A s.heap H locs (wX0 o i cA oB ++ wX0 o j cA oE) := by rw [hH, hlc]; exact hw
  have goal : W p l e rmX0_become s m ([.ref (o i), .ref (o j)] : List Value).toArray below meth c H locs 0 0 Q (F0 m 0 ls []) := by
    clear hH hlc
    refine lv_aload_n hx hb dX0_become_0 rfl (lv_at hl 0 rfl) ?_
    obtain ⟨oB1, g2, hf⟩ := bn1_e hf
    have fr := fr_X0_become_X0_oB o i j cA oB oE oB1
    refine go_v (run_v (As := []) (rest := []) ⟨hx, hb, hml, hown, hts⟩ (k_X0_clear l D cA tx ty o i oB oB1 g2 H.size) (cwV 0 hts gX0_become_X0_clear rfl rfl rfl hd_X0_clear ⟨Nat.le_of_ble_eq_true rfl, Nat.le_of_ble_eq_true rfl⟩) fr hw hK hA hZo hZ (ci := 0) rfl rfl rfl rfl hl.1 rfl (Nat.le_of_ble_eq_true rfl) dX0_become_1 ⟨Nat.zero_le _, Nat.zero_le _⟩) fr hw hA (fun H locs hw => ?_)
    refine lv_aload_n hx hb dX0_become_4 rfl (lv_at hl 0 rfl) ?_
    refine lv_aload_n hx hb dX0_become_5 rfl (lv_at hl 1 rfl) ?_
    refine w_get hx hb hts hi0 hown hK hw 4 rfl rfl 0 (by decide) q0 rfl (v := .int (oE.1 0)) rfl dX0_become_6 ?_
    refine w_put (ws' := (wX0 o i cA ((sI oB1 0 (oE.1 0))) ++ wX0 o j cA oE)) hx hb hts hi0 tyX0 tyX0_ok nmX0 hown hK hw 0 rfl rfl 0 (by decide) q0 rfl rfl rfl rfl (Nat.le_of_ble_eq_true rfl) rfl dX0_become_9 (fun H locs hw => ?_)
    refine lv_aload_n hx hb dX0_become_12 rfl (lv_at hl 0 rfl) ?_
    refine lv_aload_n hx hb dX0_become_13 rfl (lv_at hl 1 rfl) ?_
    refine w_get hx hb hts hi0 hown hK hw 4 rfl rfl 1 (by decide) q1 rfl (v := .int (oE.1 1)) rfl dX0_become_14 ?_
    refine w_put (ws' := (wX0 o i cA ((sI (sI oB1 0 (oE.1 0)) 1 (oE.1 1))) ++ wX0 o j cA oE)) hx hb hts hi0 tyX0 tyX0_ok nmX0 hown hK hw 0 rfl rfl 1 (by decide) q1 rfl rfl rfl rfl (Nat.le_of_ble_eq_true rfl) rfl dX0_become_17 (fun H locs hw => ?_)
    refine lv_iconst (v := 0) hx hb dX0_become_20 (by decide) ?_
    refine lv_istore_n (lv' := [(2, .int 0), (0, .ref (o i)), (1, .ref (o j))]) hx hb dX0_become_21 rfl hl (by decide) rfl (fun ls hl => ?_)
    exact h_L22  _ 0 ((sI (sI oB1 0 (oE.1 0)) 1 (oE.1 1))) hf H locs ls hw (lv_sub hl [1, 2, 0] rfl)
  rw [hH, hlc] at goal
  exact goal
abbrev rmX0_isThere : Room := { frames := 0, cells := 0, slots := 0, locals := 0 }
theorem hd_X0_isThere : yX0_isThere.cls = RX0 ∧ yX0_isThere.cls ≠ "java/lang/invoke/MethodHandle" ∧ yX0_isThere.cls ≠ "java/lang/invoke/VarHandle" ∧ (parseMethodDescriptor yX0_isThere.desc).map (fun d => d.parameters.length) = some 0 := by decide +kernel
set_option maxHeartbeats 4000000 in
set_option maxRecDepth 100000 in
theorem k_X0_isThere (l : Launch) (D : va_G) (cA : ClassId) (tx ty : Nat) (o : Nat → Nat) (i : Nat) (oB : St) (r : Int32) (hf : f_X0_isThere oB = some (r)) : Mi l yX0_isThere wsX0_isThere rmX0_isThere D cA (z_X tx ty) [.ref (o i)] (wX0 o i cA oB) r (wX0 o i cA oB) := by
  refine Mi.of (cc := cX0_isThere) (maxL := 1) (ret := (some .boolean)) (plainFor_of_name (by decide)) rfl (Nat.le_of_ble_eq_true rfl) (Or.inr rfl) ?_
  intro p e s m below meth c A Q hx hb hml hown hts hK hA hZ hret ls hl hw
  replace hown : s.vm.findClass RX0 = some m.cls := hown
  have hl : lv_has ls 1 [(0, .ref (o i))] := hl
  have hZo := z_X_ok tx ty
  have hi0 : ∀ w ∈ wsX00, w ∈ wsX0_isThere := fun w h => List.mem_cons_of_mem _ (List.mem_append_right _ h)
  have q0 := hts (.fieldLink RX0 21 "ArcRings$Board" "width" "I") (by decide +kernel)
  unfold f_X0_isThere at hf
  obtain ⟨H, hH⟩ : ∃ H, H = s.heap := ⟨_, rfl⟩
  obtain ⟨locs, hlc⟩ : ∃ locs : List Loc, locs = [] := ⟨_, rfl⟩
  have hw : Wd D A s.heap H locs (wX0 o i cA oB) := by rw [hH, hlc]; exact hw
  have goal : W p l e rmX0_isThere s m ([.ref (o i)] : List Value).toArray below meth c H locs 0 0 Q (F0 m 0 ls []) := by
    clear hH hlc
    refine lv_aload_n hx hb dX0_isThere_0 rfl (lv_at hl 0 rfl) ?_
    refine w_get hx hb hts hi0 hown hK hw 0 rfl rfl 0 (by decide) q0 rfl (v := .int (oB.1 0)) rfl dX0_isThere_1 ?_
    refine lv_if_le (tgt := 11) hx hb dX0_isThere_4 (by decide) (fun c1 => ?_) (fun c1 => ?_)
    · have hf := if_t c1 hf
      refine lv_iconst (v := 0) hx hb dX0_isThere_11 (by decide) ?_
      have e0_ := sm1 hf
      exact hret _ _ _ _ _ hw e0_ (Or.inr (Or.inl rfl)) dX0_isThere_12
    · have hf := if_f c1 hf
      refine lv_iconst (v := 1) hx hb dX0_isThere_7 (by decide) ?_
      refine lv_goto (tgt := 12) hx hb dX0_isThere_8 (by decide) ?_
      have e0_ := sm1 hf
      exact hret _ _ _ _ _ hw e0_ (Or.inr (Or.inr rfl)) dX0_isThere_12
  rw [hH, hlc] at goal
  exact goal
abbrev rmX0_has : Room := { frames := 0, cells := 0, slots := 0, locals := 0 }
theorem hd_X0_has : yX0_has.cls = RX0 ∧ yX0_has.cls ≠ "java/lang/invoke/MethodHandle" ∧ yX0_has.cls ≠ "java/lang/invoke/VarHandle" ∧ (parseMethodDescriptor yX0_has.desc).map (fun d => d.parameters.length) = some 1 := by decide +kernel
set_option maxHeartbeats 4000000 in
set_option maxRecDepth 100000 in
theorem k_X0_has (l : Launch) (D : va_G) (cA : ClassId) (tx ty : Nat) (o : Nat → Nat) (i : Nat) (oB : St) (a1 : Int32) (r : Int32) (hf : f_X0_has oB a1 = some (r)) : Mi l yX0_has wsX0_has rmX0_has D cA (z_X tx ty) [.ref (o i), .int a1] (wX0 o i cA oB) r (wX0 o i cA oB) := by
  refine Mi.of (cc := cX0_has) (maxL := 2) (ret := (some .boolean)) (plainFor_of_name (by decide)) rfl (Nat.le_of_ble_eq_true rfl) (Or.inr rfl) ?_
  intro p e s m below meth c A Q hx hb hml hown hts hK hA hZ hret ls hl hw
  replace hown : s.vm.findClass RX0 = some m.cls := hown
  have hl : lv_has ls 2 [(0, .ref (o i)), (1, .int a1)] := hl
  have hZo := z_X_ok tx ty
  have hi0 : ∀ w ∈ wsX00, w ∈ wsX0_has := fun w h => List.mem_cons_of_mem _ (List.mem_append_right _ h)
  have q0 := hts (.fieldLink RX0 28 "ArcRings$Board" "dots" "I") (by decide +kernel)
  unfold f_X0_has at hf
  obtain ⟨H, hH⟩ : ∃ H, H = s.heap := ⟨_, rfl⟩
  obtain ⟨locs, hlc⟩ : ∃ locs : List Loc, locs = [] := ⟨_, rfl⟩
  have hw : Wd D A s.heap H locs (wX0 o i cA oB) := by rw [hH, hlc]; exact hw
  have goal : W p l e rmX0_has s m ([.ref (o i), .int a1] : List Value).toArray below meth c H locs 0 0 Q (F0 m 0 ls []) := by
    clear hH hlc
    refine lv_iload_n hx hb dX0_has_0 rfl (lv_at hl 1 rfl) ?_
    refine lv_if_lt (tgt := 16) hx hb dX0_has_1 (by decide) (fun c1 => ?_) (fun c1 => ?_)
    · have hf := if_t c1 hf
      refine lv_iconst (v := 0) hx hb dX0_has_16 (by decide) ?_
      have e0_ := sm1 hf
      exact hret _ _ _ _ _ hw e0_ (Or.inr (Or.inl rfl)) dX0_has_17
    · have hf := if_f c1 hf
      refine lv_iload_n hx hb dX0_has_4 rfl (lv_at hl 1 rfl) ?_
      refine lv_aload_n hx hb dX0_has_5 rfl (lv_at hl 0 rfl) ?_
      refine w_get hx hb hts hi0 hown hK hw 0 rfl rfl 2 (by decide) q0 rfl (v := .int (oB.1 2)) rfl dX0_has_6 ?_
      refine lv_icmp_ge (tgt := 16) hx hb dX0_has_9 (by decide) (fun c2 => ?_) (fun c2 => ?_)
      · have hf := if_t c2 hf
        refine lv_iconst (v := 0) hx hb dX0_has_16 (by decide) ?_
        have e0_ := sm1 hf
        exact hret _ _ _ _ _ hw e0_ (Or.inr (Or.inl rfl)) dX0_has_17
      · have hf := if_f c2 hf
        refine lv_iconst (v := 1) hx hb dX0_has_12 (by decide) ?_
        refine lv_goto (tgt := 17) hx hb dX0_has_13 (by decide) ?_
        have e0_ := sm1 hf
        exact hret _ _ _ _ _ hw e0_ (Or.inr (Or.inr rfl)) dX0_has_17
  rw [hH, hlc] at goal
  exact goal
abbrev rmX0_dotLetter : Room := { frames := 1, cells := 0, slots := 0, locals := 21 }
theorem hd_X0_dotLetter : yX0_dotLetter.cls = RX0 ∧ yX0_dotLetter.cls ≠ "java/lang/invoke/MethodHandle" ∧ yX0_dotLetter.cls ≠ "java/lang/invoke/VarHandle" ∧ (parseMethodDescriptor yX0_dotLetter.desc).map (fun d => d.parameters.length) = some 1 := by decide +kernel
set_option maxHeartbeats 4000000 in
set_option maxRecDepth 100000 in
theorem k_X0_dotLetter (l : Launch) (D : va_G) (cA : ClassId) (tx ty : Nat) (o : Nat → Nat) (i : Nat) (oB : St) (a1 : Int32) (r : Int32) (hf : f_X0_dotLetter oB a1 = some (r)) : Mi l yX0_dotLetter wsX0_dotLetter rmX0_dotLetter D cA (z_X tx ty) [.ref (o i), .int a1] (wX0 o i cA oB) r (wX0 o i cA oB) := by
  refine Mi.of (cc := cX0_dotLetter) (maxL := 3) (ret := (some .int)) (plainFor_of_name (by decide)) rfl (Nat.le_of_ble_eq_true rfl) (Or.inl rfl) ?_
  intro p e s m below meth c A Q hx hb hml hown hts hK hA hZ hret ls hl hw
  replace hown : s.vm.findClass RX0 = some m.cls := hown
  have hl : lv_has ls 3 [(0, .ref (o i)), (1, .int a1)] := hl
  have hZo := z_X_ok tx ty
  have hi0 : ∀ w ∈ wsX00, w ∈ wsX0_dotLetter := fun w h => List.mem_cons_of_mem _ (List.mem_append_right _ h)
  have q0 := hts (.fieldLink RX0 9 "ArcRings$Board" "xs" "[I") (by decide +kernel)
  have q1 := hts (.fieldLink RX0 15 "ArcRings$Board" "ys" "[I") (by decide +kernel)
  have q2 := hts (.fieldLink RX0 18 "ArcRings$Board" "turns" "[I") (by decide +kernel)
  unfold f_X0_dotLetter at hf
  obtain ⟨H, hH⟩ : ∃ H, H = s.heap := ⟨_, rfl⟩
  obtain ⟨locs, hlc⟩ : ∃ locs : List Loc, locs = [] := ⟨_, rfl⟩
  have hw : Wd D A s.heap H locs (wX0 o i cA oB) := by rw [hH, hlc]; exact hw
  have goal : W p l e rmX0_dotLetter s m ([.ref (o i), .int a1] : List Value).toArray below meth c H locs 0 0 Q (F0 m 0 ls []) := by
    clear hH hlc
    refine lv_iload_n hx hb dX0_dotLetter_0 rfl (lv_at hl 1 rfl) ?_
    refine lv_iconst (v := 3) hx hb dX0_dotLetter_1 (by decide) ?_
    refine lv_idiv hx hb dX0_dotLetter_2 (by decide) ?_
    refine lv_istore_n (lv' := [(2, .int (a1 / 3)), (0, .ref (o i)), (1, .int a1)]) hx hb dX0_dotLetter_3 rfl hl (by decide) rfl (fun ls hl => ?_)
    refine lv_aload_n hx hb dX0_dotLetter_4 rfl (lv_at hl 1 rfl) ?_
    refine lv_iload_n hx hb dX0_dotLetter_5 rfl (lv_at hl 0 rfl) ?_
    obtain ⟨x1, g2, hf⟩ := bn1_e hf
    have fr := fr_X0_X0_oB o i cA oB oB
    refine go_i (run_v (As := [.int (a1 / 3)]) (rest := []) ⟨hx, hb, hml, hown, hts⟩ (k_X0_has l D cA tx ty o i oB (a1 / 3) x1 g2 H.size) (cwV 1 hts gX0_dotLetter_X0_has rfl rfl rfl hd_X0_has ⟨Nat.le_of_ble_eq_true rfl, Nat.le_of_ble_eq_true rfl⟩) fr hw hK hA hZo hZ (ci := 0) rfl rfl rfl rfl hl.1 rfl (Nat.le_of_ble_eq_true rfl) dX0_dotLetter_6 ⟨Nat.zero_le _, Nat.zero_le _⟩) fr hw hA (fun H locs hw => ?_)
    refine lv_if_ne (tgt := 14) hx hb dX0_dotLetter_9 (by decide) (fun c3 => ?_) (fun c3 => ?_)
    · have hf := if_f c3 hf
      refine lv_iload_n hx hb dX0_dotLetter_14 rfl (lv_at hl 2 rfl) ?_
      refine lv_iconst (v := 3) hx hb dX0_dotLetter_15 (by decide) ?_
      refine lv_irem hx hb dX0_dotLetter_16 (by decide) ?_
      by_cases c4 : (a1 - a1 / 3 * 3) = 0
      · have hf := if_t c4 hf
        refine lv_lookup (tgt := 44) hx hb dX0_dotLetter_17 (by decide) (by rw [c4]; try rfl) (by decide) ?_
        refine lv_aload_n hx hb dX0_dotLetter_44 rfl (lv_at hl 1 rfl) ?_
        refine w_get hx hb hts hi0 hown hK hw 0 rfl rfl 8 (by decide) q0 rfl (v := .ref (o (i + 1))) rfl dX0_dotLetter_45 ?_
        refine lv_iload_n hx hb dX0_dotLetter_48 rfl (lv_at hl 0 rfl) ?_
        obtain ⟨x5, g6, hf⟩ := bn1_e hf
        refine w_ald hx hb hK hw 1 rfl g6 dX0_dotLetter_49 ?_
        obtain ⟨x7, g8, hf⟩ := bn1_e hf
        have fr := fr_X0_S o i cA oB
        refine go_i (run_s (As := [.int x5]) (rest := []) ⟨hx, hb, hml, hown, hts⟩ (k_X0_signOf l D cA x5 x7 g8 H.size) (va_cwS 1 hts gX0_dotLetter_X0_signOf rfl rfl rfl hd_X0_signOf ⟨Nat.le_of_ble_eq_true rfl, Nat.le_of_ble_eq_true rfl⟩) fr hw hK hA rfl hl.1 rfl (Nat.le_of_ble_eq_true rfl) dX0_dotLetter_50 ⟨Nat.zero_le _, Nat.zero_le _⟩) fr hw hA (fun H locs hw => ?_)
        have e0_ := sm1 hf
        exact hret _ _ _ _ _ hw e0_ (Or.inl rfl) dX0_dotLetter_53
      have hf := if_f c4 hf
      by_cases c9 : (a1 - a1 / 3 * 3) = 1
      · have hf := if_t c9 hf
        refine lv_lookup (tgt := 54) hx hb dX0_dotLetter_17 (by decide) (by rw [c9]; try rfl) (by decide) ?_
        refine lv_aload_n hx hb dX0_dotLetter_54 rfl (lv_at hl 1 rfl) ?_
        refine w_get hx hb hts hi0 hown hK hw 0 rfl rfl 9 (by decide) q1 rfl (v := .ref (o (i + 2))) rfl dX0_dotLetter_55 ?_
        refine lv_iload_n hx hb dX0_dotLetter_58 rfl (lv_at hl 0 rfl) ?_
        obtain ⟨x10, g11, hf⟩ := bn1_e hf
        refine w_ald hx hb hK hw 2 rfl g11 dX0_dotLetter_59 ?_
        obtain ⟨x12, g13, hf⟩ := bn1_e hf
        have fr := fr_X0_S o i cA oB
        refine go_i (run_s (As := [.int x10]) (rest := []) ⟨hx, hb, hml, hown, hts⟩ (k_X0_signOf l D cA x10 x12 g13 H.size) (va_cwS 1 hts gX0_dotLetter_X0_signOf rfl rfl rfl hd_X0_signOf ⟨Nat.le_of_ble_eq_true rfl, Nat.le_of_ble_eq_true rfl⟩) fr hw hK hA rfl hl.1 rfl (Nat.le_of_ble_eq_true rfl) dX0_dotLetter_60 ⟨Nat.zero_le _, Nat.zero_le _⟩) fr hw hA (fun H locs hw => ?_)
        have e0_ := sm1 hf
        exact hret _ _ _ _ _ hw e0_ (Or.inl rfl) dX0_dotLetter_63
      have hf := if_f c9 hf
      refine lv_lookup (tgt := 64) hx hb dX0_dotLetter_17 (by decide) (w_look2 c4 c9) (by decide) ?_
      refine lv_aload_n hx hb dX0_dotLetter_64 rfl (lv_at hl 1 rfl) ?_
      refine w_get hx hb hts hi0 hown hK hw 0 rfl rfl 10 (by decide) q2 rfl (v := .ref (o (i + 3))) rfl dX0_dotLetter_65 ?_
      refine lv_iload_n hx hb dX0_dotLetter_68 rfl (lv_at hl 0 rfl) ?_
      obtain ⟨x14, g15, hf⟩ := bn1_e hf
      refine w_ald hx hb hK hw 3 rfl g15 dX0_dotLetter_69 ?_
      refine lv_iconst (v := (-1)) hx hb dX0_dotLetter_70 (by decide) ?_
      refine lv_icmp_ne (tgt := 79) hx hb dX0_dotLetter_71 (by decide) (fun c16 => ?_) (fun c16 => ?_)
      · have hf := if_f c16 hf
        refine lv_bipush (v := 48) hx hb dX0_dotLetter_79 (by decide) ?_
        refine lv_aload_n hx hb dX0_dotLetter_81 rfl (lv_at hl 1 rfl) ?_
        refine w_get hx hb hts hi0 hown hK hw 0 rfl rfl 10 (by decide) q2 rfl (v := .ref (o (i + 3))) rfl dX0_dotLetter_82 ?_
        refine lv_iload_n hx hb dX0_dotLetter_85 rfl (lv_at hl 0 rfl) ?_
        obtain ⟨x17, g18, hf⟩ := bn1_e hf
        refine w_ald hx hb hK hw 3 rfl g18 dX0_dotLetter_86 ?_
        refine lv_iadd hx hb dX0_dotLetter_87 ?_
        have e0_ := sm1 hf
        exact hret _ _ _ _ _ hw e0_ (Or.inl rfl) dX0_dotLetter_88
      · have hf := if_t c16 hf
        refine lv_bipush (v := 45) hx hb dX0_dotLetter_74 (by decide) ?_
        refine lv_goto (tgt := 88) hx hb dX0_dotLetter_76 (by decide) ?_
        have e0_ := sm1 hf
        exact hret _ _ _ _ _ hw e0_ (Or.inl rfl) dX0_dotLetter_88
    · have hf := if_t c3 hf
      refine lv_iconst (v := (-1)) hx hb dX0_dotLetter_12 (by decide) ?_
      have e0_ := sm1 hf
      exact hret _ _ _ _ _ hw e0_ (Or.inl rfl) dX0_dotLetter_13
  rw [hH, hlc] at goal
  exact goal
abbrev rmX0_textAt : Room := { frames := 2, cells := 0, slots := 0, locals := 43 }
theorem hd_X0_textAt : yX0_textAt.cls = RX0 ∧ yX0_textAt.cls ≠ "java/lang/invoke/MethodHandle" ∧ yX0_textAt.cls ≠ "java/lang/invoke/VarHandle" ∧ (parseMethodDescriptor yX0_textAt.desc).map (fun d => d.parameters.length) = some 1 := by decide +kernel
set_option maxHeartbeats 4000000 in
set_option maxRecDepth 100000 in
theorem k_X0_textAt (l : Launch) (D : va_G) (cA : ClassId) (tx ty : Nat) (o : Nat → Nat) (i : Nat) (oB : St) (a1 : Int32) (r : Int32) (hf : f_X0_textAt oB a1 = some (r)) : Mi l yX0_textAt wsX0_textAt rmX0_textAt D cA (z_X tx ty) [.ref (o i), .int a1] (wX0 o i cA oB) r (wX0 o i cA oB) := by
  refine Mi.of (cc := cX0_textAt) (maxL := 4) (ret := (some .int)) (plainFor_of_name (by decide)) rfl (Nat.le_of_ble_eq_true rfl) (Or.inl rfl) ?_
  intro p e s m below meth c A Q hx hb hml hown hts hK hA hZ hret ls hl hw
  replace hown : s.vm.findClass RX0 = some m.cls := hown
  have hl : lv_has ls 4 [(0, .ref (o i)), (1, .int a1)] := hl
  have hZo := z_X_ok tx ty
  have hi0 : ∀ w ∈ wsX00, w ∈ wsX0_textAt := fun w h => List.mem_cons_of_mem _ (List.mem_append_right _ h)
  have q0 := hts (.fieldLink RX0 21 "ArcRings$Board" "width" "I") (by decide +kernel)
  have q1 := hts (.fieldLink RX0 25 "ArcRings$Board" "height" "I") (by decide +kernel)
  unfold f_X0_textAt at hf
  obtain ⟨H, hH⟩ : ∃ H, H = s.heap := ⟨_, rfl⟩
  obtain ⟨locs, hlc⟩ : ∃ locs : List Loc, locs = [] := ⟨_, rfl⟩
  have hw : Wd D A s.heap H locs (wX0 o i cA oB) := by rw [hH, hlc]; exact hw
  have goal : W p l e rmX0_textAt s m ([.ref (o i), .int a1] : List Value).toArray below meth c H locs 0 0 Q (F0 m 0 ls []) := by
    clear hH hlc
    refine lv_aload_n hx hb dX0_textAt_0 rfl (lv_at hl 0 rfl) ?_
    refine w_get hx hb hts hi0 hown hK hw 0 rfl rfl 0 (by decide) q0 rfl (v := .int (oB.1 0)) rfl dX0_textAt_1 ?_
    refine lv_bipush (v := 10) hx hb dX0_textAt_4 (by decide) ?_
    refine lv_icmp_ge (tgt := 13) hx hb dX0_textAt_6 (by decide) (fun c1 => ?_) (fun c1 => ?_)
    · have hf := if_t c1 hf
      refine lv_iconst (v := 2) hx hb dX0_textAt_13 (by decide) ?_
      refine lv_istore_n (lv' := [(2, .int 2), (0, .ref (o i)), (1, .int a1)]) hx hb dX0_textAt_14 rfl hl (by decide) rfl (fun ls hl => ?_)
      refine lv_iload_n hx hb dX0_textAt_15 rfl (lv_at hl 0 rfl) ?_
      refine lv_aload_n hx hb dX0_textAt_16 rfl (lv_at hl 1 rfl) ?_
      refine w_get hx hb hts hi0 hown hK hw 0 rfl rfl 1 (by decide) q1 rfl (v := .int (oB.1 1)) rfl dX0_textAt_17 ?_
      refine lv_bipush (v := 10) hx hb dX0_textAt_20 (by decide) ?_
      refine lv_icmp_ge (tgt := 29) hx hb dX0_textAt_22 (by decide) (fun c2 => ?_) (fun c2 => ?_)
      · have hf := if_t c2 hf
        refine lv_iconst (v := 3) hx hb dX0_textAt_29 (by decide) ?_
        refine lv_iadd hx hb dX0_textAt_30 ?_
        refine lv_istore_n (lv' := [(3, .int (2 + 3)), (2, .int 2), (0, .ref (o i)), (1, .int a1)]) hx hb dX0_textAt_31 rfl hl (by decide) rfl (fun ls hl => ?_)
        refine lv_iload_n hx hb dX0_textAt_32 rfl (lv_at hl 3 rfl) ?_
        refine lv_iload_n hx hb dX0_textAt_33 rfl (lv_at hl 1 rfl) ?_
        refine lv_icmp_ge (tgt := 50) hx hb dX0_textAt_34 (by decide) (fun c3 => ?_) (fun c3 => ?_)
        · have hf := if_t c3 hf
          refine lv_iload_n hx hb dX0_textAt_50 rfl (lv_at hl 3 rfl) ?_
          refine lv_iload_n hx hb dX0_textAt_51 rfl (lv_at hl 1 rfl) ?_
          refine lv_icmp_ne (tgt := 58) hx hb dX0_textAt_52 (by decide) (fun c4 => ?_) (fun c4 => ?_)
          · have hf := if_f c4 hf
            refine lv_iload_n hx hb dX0_textAt_58 rfl (lv_at hl 3 rfl) ?_
            refine lv_iload_n hx hb dX0_textAt_59 rfl (lv_at hl 0 rfl) ?_
            refine lv_icmp_ge (tgt := 76) hx hb dX0_textAt_60 (by decide) (fun c5 => ?_) (fun c5 => ?_)
            · have hf := if_t c5 hf
              refine lv_iload_n hx hb dX0_textAt_76 rfl (lv_at hl 3 rfl) ?_
              refine lv_iload_n hx hb dX0_textAt_77 rfl (lv_at hl 0 rfl) ?_
              refine lv_icmp_ne (tgt := 84) hx hb dX0_textAt_78 (by decide) (fun c6 => ?_) (fun c6 => ?_)
              · have hf := if_f c6 hf
                refine lv_aload_n hx hb dX0_textAt_84 rfl (lv_at hl 2 rfl) ?_
                refine lv_iload_n hx hb dX0_textAt_85 rfl (lv_at hl 3 rfl) ?_
                refine lv_iload_n hx hb dX0_textAt_86 rfl (lv_at hl 0 rfl) ?_
                refine lv_isub hx hb dX0_textAt_87 ?_
                refine lv_iconst (v := 1) hx hb dX0_textAt_88 (by decide) ?_
                refine lv_isub hx hb dX0_textAt_89 ?_
                obtain ⟨x7, g8, hf⟩ := bn1_e hf
                have fr := fr_X0_X0_oB o i cA oB oB
                refine go_i (run_v (As := [.int ((a1 - (2 + 3)) - 1)]) (rest := []) ⟨hx, hb, hml, hown, hts⟩ (k_X0_dotLetter l D cA tx ty o i oB ((a1 - (2 + 3)) - 1) x7 g8 H.size) (cwV 1 hts gX0_textAt_X0_dotLetter rfl rfl rfl hd_X0_dotLetter ⟨Nat.le_of_ble_eq_true rfl, Nat.le_of_ble_eq_true rfl⟩) fr hw hK hA hZo hZ (ci := 0) rfl rfl rfl rfl hl.1 rfl (Nat.le_of_ble_eq_true rfl) dX0_textAt_90 ⟨Nat.zero_le _, Nat.zero_le _⟩) fr hw hA (fun H locs hw => ?_)
                have e0_ := sm1 hf
                exact hret _ _ _ _ _ hw e0_ (Or.inl rfl) dX0_textAt_93
              · have hf := if_t c6 hf
                refine lv_bipush (v := 58) hx hb dX0_textAt_81 (by decide) ?_
                have e0_ := sm1 hf
                exact hret _ _ _ _ _ hw e0_ (Or.inl rfl) dX0_textAt_83
            · have hf := if_f c5 hf
              refine lv_aload_n hx hb dX0_textAt_63 rfl (lv_at hl 2 rfl) ?_
              refine w_get hx hb hts hi0 hown hK hw 0 rfl rfl 1 (by decide) q1 rfl (v := .int (oB.1 1)) rfl dX0_textAt_64 ?_
              refine lv_iload_n hx hb dX0_textAt_67 rfl (lv_at hl 0 rfl) ?_
              refine lv_iconst (v := 1) hx hb dX0_textAt_68 (by decide) ?_
              refine lv_isub hx hb dX0_textAt_69 ?_
              refine lv_iload_n hx hb dX0_textAt_70 rfl (lv_at hl 3 rfl) ?_
              refine lv_isub hx hb dX0_textAt_71 ?_
              obtain ⟨x9, g10, hf⟩ := bn1_e hf
              have fr := fr_X0_S o i cA oB
              refine go_i (run_s (As := [.int (oB.1 1), .int (((2 + 3) - 1) - a1)]) (rest := []) ⟨hx, hb, hml, hown, hts⟩ (k_X0_digitAt l D cA (oB.1 1) (((2 + 3) - 1) - a1) x9 g10 H.size) (va_cwS 2 hts gX0_textAt_X0_digitAt rfl rfl rfl hd_X0_digitAt ⟨Nat.le_of_ble_eq_true rfl, Nat.le_of_ble_eq_true rfl⟩) fr hw hK hA rfl hl.1 rfl (Nat.le_of_ble_eq_true rfl) dX0_textAt_72 ⟨Nat.zero_le _, Nat.zero_le _⟩) fr hw hA (fun H locs hw => ?_)
              have e0_ := sm1 hf
              exact hret _ _ _ _ _ hw e0_ (Or.inl rfl) dX0_textAt_75
          · have hf := if_t c4 hf
            refine lv_bipush (v := 120) hx hb dX0_textAt_55 (by decide) ?_
            have e0_ := sm1 hf
            exact hret _ _ _ _ _ hw e0_ (Or.inl rfl) dX0_textAt_57
        · have hf := if_f c3 hf
          refine lv_aload_n hx hb dX0_textAt_37 rfl (lv_at hl 2 rfl) ?_
          refine w_get hx hb hts hi0 hown hK hw 0 rfl rfl 0 (by decide) q0 rfl (v := .int (oB.1 0)) rfl dX0_textAt_38 ?_
          refine lv_iload_n hx hb dX0_textAt_41 rfl (lv_at hl 1 rfl) ?_
          refine lv_iconst (v := 1) hx hb dX0_textAt_42 (by decide) ?_
          refine lv_isub hx hb dX0_textAt_43 ?_
          refine lv_iload_n hx hb dX0_textAt_44 rfl (lv_at hl 3 rfl) ?_
          refine lv_isub hx hb dX0_textAt_45 ?_
          obtain ⟨x11, g12, hf⟩ := bn1_e hf
          have fr := fr_X0_S o i cA oB
          refine go_i (run_s (As := [.int (oB.1 0), .int ((2 - 1) - a1)]) (rest := []) ⟨hx, hb, hml, hown, hts⟩ (k_X0_digitAt l D cA (oB.1 0) ((2 - 1) - a1) x11 g12 H.size) (va_cwS 2 hts gX0_textAt_X0_digitAt rfl rfl rfl hd_X0_digitAt ⟨Nat.le_of_ble_eq_true rfl, Nat.le_of_ble_eq_true rfl⟩) fr hw hK hA rfl hl.1 rfl (Nat.le_of_ble_eq_true rfl) dX0_textAt_46 ⟨Nat.zero_le _, Nat.zero_le _⟩) fr hw hA (fun H locs hw => ?_)
          have e0_ := sm1 hf
          exact hret _ _ _ _ _ hw e0_ (Or.inl rfl) dX0_textAt_49
      · have hf := if_f c2 hf
        refine lv_iconst (v := 2) hx hb dX0_textAt_25 (by decide) ?_
        refine lv_goto (tgt := 30) hx hb dX0_textAt_26 (by decide) ?_
        refine lv_iadd hx hb dX0_textAt_30 ?_
        refine lv_istore_n (lv' := [(3, .int (2 + 2)), (2, .int 2), (0, .ref (o i)), (1, .int a1)]) hx hb dX0_textAt_31 rfl hl (by decide) rfl (fun ls hl => ?_)
        refine lv_iload_n hx hb dX0_textAt_32 rfl (lv_at hl 3 rfl) ?_
        refine lv_iload_n hx hb dX0_textAt_33 rfl (lv_at hl 1 rfl) ?_
        refine lv_icmp_ge (tgt := 50) hx hb dX0_textAt_34 (by decide) (fun c13 => ?_) (fun c13 => ?_)
        · have hf := if_t c13 hf
          refine lv_iload_n hx hb dX0_textAt_50 rfl (lv_at hl 3 rfl) ?_
          refine lv_iload_n hx hb dX0_textAt_51 rfl (lv_at hl 1 rfl) ?_
          refine lv_icmp_ne (tgt := 58) hx hb dX0_textAt_52 (by decide) (fun c14 => ?_) (fun c14 => ?_)
          · have hf := if_f c14 hf
            refine lv_iload_n hx hb dX0_textAt_58 rfl (lv_at hl 3 rfl) ?_
            refine lv_iload_n hx hb dX0_textAt_59 rfl (lv_at hl 0 rfl) ?_
            refine lv_icmp_ge (tgt := 76) hx hb dX0_textAt_60 (by decide) (fun c15 => ?_) (fun c15 => ?_)
            · have hf := if_t c15 hf
              refine lv_iload_n hx hb dX0_textAt_76 rfl (lv_at hl 3 rfl) ?_
              refine lv_iload_n hx hb dX0_textAt_77 rfl (lv_at hl 0 rfl) ?_
              refine lv_icmp_ne (tgt := 84) hx hb dX0_textAt_78 (by decide) (fun c16 => ?_) (fun c16 => ?_)
              · have hf := if_f c16 hf
                refine lv_aload_n hx hb dX0_textAt_84 rfl (lv_at hl 2 rfl) ?_
                refine lv_iload_n hx hb dX0_textAt_85 rfl (lv_at hl 3 rfl) ?_
                refine lv_iload_n hx hb dX0_textAt_86 rfl (lv_at hl 0 rfl) ?_
                refine lv_isub hx hb dX0_textAt_87 ?_
                refine lv_iconst (v := 1) hx hb dX0_textAt_88 (by decide) ?_
                refine lv_isub hx hb dX0_textAt_89 ?_
                obtain ⟨x17, g18, hf⟩ := bn1_e hf
                have fr := fr_X0_X0_oB o i cA oB oB
                refine go_i (run_v (As := [.int ((a1 - (2 + 2)) - 1)]) (rest := []) ⟨hx, hb, hml, hown, hts⟩ (k_X0_dotLetter l D cA tx ty o i oB ((a1 - (2 + 2)) - 1) x17 g18 H.size) (cwV 1 hts gX0_textAt_X0_dotLetter rfl rfl rfl hd_X0_dotLetter ⟨Nat.le_of_ble_eq_true rfl, Nat.le_of_ble_eq_true rfl⟩) fr hw hK hA hZo hZ (ci := 0) rfl rfl rfl rfl hl.1 rfl (Nat.le_of_ble_eq_true rfl) dX0_textAt_90 ⟨Nat.zero_le _, Nat.zero_le _⟩) fr hw hA (fun H locs hw => ?_)
                have e0_ := sm1 hf
                exact hret _ _ _ _ _ hw e0_ (Or.inl rfl) dX0_textAt_93
              · have hf := if_t c16 hf
                refine lv_bipush (v := 58) hx hb dX0_textAt_81 (by decide) ?_
                have e0_ := sm1 hf
                exact hret _ _ _ _ _ hw e0_ (Or.inl rfl) dX0_textAt_83
            · have hf := if_f c15 hf
              refine lv_aload_n hx hb dX0_textAt_63 rfl (lv_at hl 2 rfl) ?_
              refine w_get hx hb hts hi0 hown hK hw 0 rfl rfl 1 (by decide) q1 rfl (v := .int (oB.1 1)) rfl dX0_textAt_64 ?_
              refine lv_iload_n hx hb dX0_textAt_67 rfl (lv_at hl 0 rfl) ?_
              refine lv_iconst (v := 1) hx hb dX0_textAt_68 (by decide) ?_
              refine lv_isub hx hb dX0_textAt_69 ?_
              refine lv_iload_n hx hb dX0_textAt_70 rfl (lv_at hl 3 rfl) ?_
              refine lv_isub hx hb dX0_textAt_71 ?_
              obtain ⟨x19, g20, hf⟩ := bn1_e hf
              have fr := fr_X0_S o i cA oB
              refine go_i (run_s (As := [.int (oB.1 1), .int (((2 + 2) - 1) - a1)]) (rest := []) ⟨hx, hb, hml, hown, hts⟩ (k_X0_digitAt l D cA (oB.1 1) (((2 + 2) - 1) - a1) x19 g20 H.size) (va_cwS 2 hts gX0_textAt_X0_digitAt rfl rfl rfl hd_X0_digitAt ⟨Nat.le_of_ble_eq_true rfl, Nat.le_of_ble_eq_true rfl⟩) fr hw hK hA rfl hl.1 rfl (Nat.le_of_ble_eq_true rfl) dX0_textAt_72 ⟨Nat.zero_le _, Nat.zero_le _⟩) fr hw hA (fun H locs hw => ?_)
              have e0_ := sm1 hf
              exact hret _ _ _ _ _ hw e0_ (Or.inl rfl) dX0_textAt_75
          · have hf := if_t c14 hf
            refine lv_bipush (v := 120) hx hb dX0_textAt_55 (by decide) ?_
            have e0_ := sm1 hf
            exact hret _ _ _ _ _ hw e0_ (Or.inl rfl) dX0_textAt_57
        · have hf := if_f c13 hf
          refine lv_aload_n hx hb dX0_textAt_37 rfl (lv_at hl 2 rfl) ?_
          refine w_get hx hb hts hi0 hown hK hw 0 rfl rfl 0 (by decide) q0 rfl (v := .int (oB.1 0)) rfl dX0_textAt_38 ?_
          refine lv_iload_n hx hb dX0_textAt_41 rfl (lv_at hl 1 rfl) ?_
          refine lv_iconst (v := 1) hx hb dX0_textAt_42 (by decide) ?_
          refine lv_isub hx hb dX0_textAt_43 ?_
          refine lv_iload_n hx hb dX0_textAt_44 rfl (lv_at hl 3 rfl) ?_
          refine lv_isub hx hb dX0_textAt_45 ?_
          obtain ⟨x21, g22, hf⟩ := bn1_e hf
          have fr := fr_X0_S o i cA oB
          refine go_i (run_s (As := [.int (oB.1 0), .int ((2 - 1) - a1)]) (rest := []) ⟨hx, hb, hml, hown, hts⟩ (k_X0_digitAt l D cA (oB.1 0) ((2 - 1) - a1) x21 g22 H.size) (va_cwS 2 hts gX0_textAt_X0_digitAt rfl rfl rfl hd_X0_digitAt ⟨Nat.le_of_ble_eq_true rfl, Nat.le_of_ble_eq_true rfl⟩) fr hw hK hA rfl hl.1 rfl (Nat.le_of_ble_eq_true rfl) dX0_textAt_46 ⟨Nat.zero_le _, Nat.zero_le _⟩) fr hw hA (fun H locs hw => ?_)
          have e0_ := sm1 hf
          exact hret _ _ _ _ _ hw e0_ (Or.inl rfl) dX0_textAt_49
    · have hf := if_f c1 hf
      refine lv_iconst (v := 1) hx hb dX0_textAt_9 (by decide) ?_
      refine lv_goto (tgt := 14) hx hb dX0_textAt_10 (by decide) ?_
      refine lv_istore_n (lv' := [(2, .int 1), (0, .ref (o i)), (1, .int a1)]) hx hb dX0_textAt_14 rfl hl (by decide) rfl (fun ls hl => ?_)
      refine lv_iload_n hx hb dX0_textAt_15 rfl (lv_at hl 0 rfl) ?_
      refine lv_aload_n hx hb dX0_textAt_16 rfl (lv_at hl 1 rfl) ?_
      refine w_get hx hb hts hi0 hown hK hw 0 rfl rfl 1 (by decide) q1 rfl (v := .int (oB.1 1)) rfl dX0_textAt_17 ?_
      refine lv_bipush (v := 10) hx hb dX0_textAt_20 (by decide) ?_
      refine lv_icmp_ge (tgt := 29) hx hb dX0_textAt_22 (by decide) (fun c23 => ?_) (fun c23 => ?_)
      · have hf := if_t c23 hf
        refine lv_iconst (v := 3) hx hb dX0_textAt_29 (by decide) ?_
        refine lv_iadd hx hb dX0_textAt_30 ?_
        refine lv_istore_n (lv' := [(3, .int (1 + 3)), (2, .int 1), (0, .ref (o i)), (1, .int a1)]) hx hb dX0_textAt_31 rfl hl (by decide) rfl (fun ls hl => ?_)
        refine lv_iload_n hx hb dX0_textAt_32 rfl (lv_at hl 3 rfl) ?_
        refine lv_iload_n hx hb dX0_textAt_33 rfl (lv_at hl 1 rfl) ?_
        refine lv_icmp_ge (tgt := 50) hx hb dX0_textAt_34 (by decide) (fun c24 => ?_) (fun c24 => ?_)
        · have hf := if_t c24 hf
          refine lv_iload_n hx hb dX0_textAt_50 rfl (lv_at hl 3 rfl) ?_
          refine lv_iload_n hx hb dX0_textAt_51 rfl (lv_at hl 1 rfl) ?_
          refine lv_icmp_ne (tgt := 58) hx hb dX0_textAt_52 (by decide) (fun c25 => ?_) (fun c25 => ?_)
          · have hf := if_f c25 hf
            refine lv_iload_n hx hb dX0_textAt_58 rfl (lv_at hl 3 rfl) ?_
            refine lv_iload_n hx hb dX0_textAt_59 rfl (lv_at hl 0 rfl) ?_
            refine lv_icmp_ge (tgt := 76) hx hb dX0_textAt_60 (by decide) (fun c26 => ?_) (fun c26 => ?_)
            · have hf := if_t c26 hf
              refine lv_iload_n hx hb dX0_textAt_76 rfl (lv_at hl 3 rfl) ?_
              refine lv_iload_n hx hb dX0_textAt_77 rfl (lv_at hl 0 rfl) ?_
              refine lv_icmp_ne (tgt := 84) hx hb dX0_textAt_78 (by decide) (fun c27 => ?_) (fun c27 => ?_)
              · have hf := if_f c27 hf
                refine lv_aload_n hx hb dX0_textAt_84 rfl (lv_at hl 2 rfl) ?_
                refine lv_iload_n hx hb dX0_textAt_85 rfl (lv_at hl 3 rfl) ?_
                refine lv_iload_n hx hb dX0_textAt_86 rfl (lv_at hl 0 rfl) ?_
                refine lv_isub hx hb dX0_textAt_87 ?_
                refine lv_iconst (v := 1) hx hb dX0_textAt_88 (by decide) ?_
                refine lv_isub hx hb dX0_textAt_89 ?_
                obtain ⟨x28, g29, hf⟩ := bn1_e hf
                have fr := fr_X0_X0_oB o i cA oB oB
                refine go_i (run_v (As := [.int ((a1 - (1 + 3)) - 1)]) (rest := []) ⟨hx, hb, hml, hown, hts⟩ (k_X0_dotLetter l D cA tx ty o i oB ((a1 - (1 + 3)) - 1) x28 g29 H.size) (cwV 1 hts gX0_textAt_X0_dotLetter rfl rfl rfl hd_X0_dotLetter ⟨Nat.le_of_ble_eq_true rfl, Nat.le_of_ble_eq_true rfl⟩) fr hw hK hA hZo hZ (ci := 0) rfl rfl rfl rfl hl.1 rfl (Nat.le_of_ble_eq_true rfl) dX0_textAt_90 ⟨Nat.zero_le _, Nat.zero_le _⟩) fr hw hA (fun H locs hw => ?_)
                have e0_ := sm1 hf
                exact hret _ _ _ _ _ hw e0_ (Or.inl rfl) dX0_textAt_93
              · have hf := if_t c27 hf
                refine lv_bipush (v := 58) hx hb dX0_textAt_81 (by decide) ?_
                have e0_ := sm1 hf
                exact hret _ _ _ _ _ hw e0_ (Or.inl rfl) dX0_textAt_83
            · have hf := if_f c26 hf
              refine lv_aload_n hx hb dX0_textAt_63 rfl (lv_at hl 2 rfl) ?_
              refine w_get hx hb hts hi0 hown hK hw 0 rfl rfl 1 (by decide) q1 rfl (v := .int (oB.1 1)) rfl dX0_textAt_64 ?_
              refine lv_iload_n hx hb dX0_textAt_67 rfl (lv_at hl 0 rfl) ?_
              refine lv_iconst (v := 1) hx hb dX0_textAt_68 (by decide) ?_
              refine lv_isub hx hb dX0_textAt_69 ?_
              refine lv_iload_n hx hb dX0_textAt_70 rfl (lv_at hl 3 rfl) ?_
              refine lv_isub hx hb dX0_textAt_71 ?_
              obtain ⟨x30, g31, hf⟩ := bn1_e hf
              have fr := fr_X0_S o i cA oB
              refine go_i (run_s (As := [.int (oB.1 1), .int (((1 + 3) - 1) - a1)]) (rest := []) ⟨hx, hb, hml, hown, hts⟩ (k_X0_digitAt l D cA (oB.1 1) (((1 + 3) - 1) - a1) x30 g31 H.size) (va_cwS 2 hts gX0_textAt_X0_digitAt rfl rfl rfl hd_X0_digitAt ⟨Nat.le_of_ble_eq_true rfl, Nat.le_of_ble_eq_true rfl⟩) fr hw hK hA rfl hl.1 rfl (Nat.le_of_ble_eq_true rfl) dX0_textAt_72 ⟨Nat.zero_le _, Nat.zero_le _⟩) fr hw hA (fun H locs hw => ?_)
              have e0_ := sm1 hf
              exact hret _ _ _ _ _ hw e0_ (Or.inl rfl) dX0_textAt_75
          · have hf := if_t c25 hf
            refine lv_bipush (v := 120) hx hb dX0_textAt_55 (by decide) ?_
            have e0_ := sm1 hf
            exact hret _ _ _ _ _ hw e0_ (Or.inl rfl) dX0_textAt_57
        · have hf := if_f c24 hf
          refine lv_aload_n hx hb dX0_textAt_37 rfl (lv_at hl 2 rfl) ?_
          refine w_get hx hb hts hi0 hown hK hw 0 rfl rfl 0 (by decide) q0 rfl (v := .int (oB.1 0)) rfl dX0_textAt_38 ?_
          refine lv_iload_n hx hb dX0_textAt_41 rfl (lv_at hl 1 rfl) ?_
          refine lv_iconst (v := 1) hx hb dX0_textAt_42 (by decide) ?_
          refine lv_isub hx hb dX0_textAt_43 ?_
          refine lv_iload_n hx hb dX0_textAt_44 rfl (lv_at hl 3 rfl) ?_
          refine lv_isub hx hb dX0_textAt_45 ?_
          obtain ⟨x32, g33, hf⟩ := bn1_e hf
          have fr := fr_X0_S o i cA oB
          refine go_i (run_s (As := [.int (oB.1 0), .int ((1 - 1) - a1)]) (rest := []) ⟨hx, hb, hml, hown, hts⟩ (k_X0_digitAt l D cA (oB.1 0) ((1 - 1) - a1) x32 g33 H.size) (va_cwS 2 hts gX0_textAt_X0_digitAt rfl rfl rfl hd_X0_digitAt ⟨Nat.le_of_ble_eq_true rfl, Nat.le_of_ble_eq_true rfl⟩) fr hw hK hA rfl hl.1 rfl (Nat.le_of_ble_eq_true rfl) dX0_textAt_46 ⟨Nat.zero_le _, Nat.zero_le _⟩) fr hw hA (fun H locs hw => ?_)
          have e0_ := sm1 hf
          exact hret _ _ _ _ _ hw e0_ (Or.inl rfl) dX0_textAt_49
      · have hf := if_f c23 hf
        refine lv_iconst (v := 2) hx hb dX0_textAt_25 (by decide) ?_
        refine lv_goto (tgt := 30) hx hb dX0_textAt_26 (by decide) ?_
        refine lv_iadd hx hb dX0_textAt_30 ?_
        refine lv_istore_n (lv' := [(3, .int (1 + 2)), (2, .int 1), (0, .ref (o i)), (1, .int a1)]) hx hb dX0_textAt_31 rfl hl (by decide) rfl (fun ls hl => ?_)
        refine lv_iload_n hx hb dX0_textAt_32 rfl (lv_at hl 3 rfl) ?_
        refine lv_iload_n hx hb dX0_textAt_33 rfl (lv_at hl 1 rfl) ?_
        refine lv_icmp_ge (tgt := 50) hx hb dX0_textAt_34 (by decide) (fun c34 => ?_) (fun c34 => ?_)
        · have hf := if_t c34 hf
          refine lv_iload_n hx hb dX0_textAt_50 rfl (lv_at hl 3 rfl) ?_
          refine lv_iload_n hx hb dX0_textAt_51 rfl (lv_at hl 1 rfl) ?_
          refine lv_icmp_ne (tgt := 58) hx hb dX0_textAt_52 (by decide) (fun c35 => ?_) (fun c35 => ?_)
          · have hf := if_f c35 hf
            refine lv_iload_n hx hb dX0_textAt_58 rfl (lv_at hl 3 rfl) ?_
            refine lv_iload_n hx hb dX0_textAt_59 rfl (lv_at hl 0 rfl) ?_
            refine lv_icmp_ge (tgt := 76) hx hb dX0_textAt_60 (by decide) (fun c36 => ?_) (fun c36 => ?_)
            · have hf := if_t c36 hf
              refine lv_iload_n hx hb dX0_textAt_76 rfl (lv_at hl 3 rfl) ?_
              refine lv_iload_n hx hb dX0_textAt_77 rfl (lv_at hl 0 rfl) ?_
              refine lv_icmp_ne (tgt := 84) hx hb dX0_textAt_78 (by decide) (fun c37 => ?_) (fun c37 => ?_)
              · have hf := if_f c37 hf
                refine lv_aload_n hx hb dX0_textAt_84 rfl (lv_at hl 2 rfl) ?_
                refine lv_iload_n hx hb dX0_textAt_85 rfl (lv_at hl 3 rfl) ?_
                refine lv_iload_n hx hb dX0_textAt_86 rfl (lv_at hl 0 rfl) ?_
                refine lv_isub hx hb dX0_textAt_87 ?_
                refine lv_iconst (v := 1) hx hb dX0_textAt_88 (by decide) ?_
                refine lv_isub hx hb dX0_textAt_89 ?_
                obtain ⟨x38, g39, hf⟩ := bn1_e hf
                have fr := fr_X0_X0_oB o i cA oB oB
                refine go_i (run_v (As := [.int ((a1 - (1 + 2)) - 1)]) (rest := []) ⟨hx, hb, hml, hown, hts⟩ (k_X0_dotLetter l D cA tx ty o i oB ((a1 - (1 + 2)) - 1) x38 g39 H.size) (cwV 1 hts gX0_textAt_X0_dotLetter rfl rfl rfl hd_X0_dotLetter ⟨Nat.le_of_ble_eq_true rfl, Nat.le_of_ble_eq_true rfl⟩) fr hw hK hA hZo hZ (ci := 0) rfl rfl rfl rfl hl.1 rfl (Nat.le_of_ble_eq_true rfl) dX0_textAt_90 ⟨Nat.zero_le _, Nat.zero_le _⟩) fr hw hA (fun H locs hw => ?_)
                have e0_ := sm1 hf
                exact hret _ _ _ _ _ hw e0_ (Or.inl rfl) dX0_textAt_93
              · have hf := if_t c37 hf
                refine lv_bipush (v := 58) hx hb dX0_textAt_81 (by decide) ?_
                have e0_ := sm1 hf
                exact hret _ _ _ _ _ hw e0_ (Or.inl rfl) dX0_textAt_83
            · have hf := if_f c36 hf
              refine lv_aload_n hx hb dX0_textAt_63 rfl (lv_at hl 2 rfl) ?_
              refine w_get hx hb hts hi0 hown hK hw 0 rfl rfl 1 (by decide) q1 rfl (v := .int (oB.1 1)) rfl dX0_textAt_64 ?_
              refine lv_iload_n hx hb dX0_textAt_67 rfl (lv_at hl 0 rfl) ?_
              refine lv_iconst (v := 1) hx hb dX0_textAt_68 (by decide) ?_
              refine lv_isub hx hb dX0_textAt_69 ?_
              refine lv_iload_n hx hb dX0_textAt_70 rfl (lv_at hl 3 rfl) ?_
              refine lv_isub hx hb dX0_textAt_71 ?_
              obtain ⟨x40, g41, hf⟩ := bn1_e hf
              have fr := fr_X0_S o i cA oB
              refine go_i (run_s (As := [.int (oB.1 1), .int (((1 + 2) - 1) - a1)]) (rest := []) ⟨hx, hb, hml, hown, hts⟩ (k_X0_digitAt l D cA (oB.1 1) (((1 + 2) - 1) - a1) x40 g41 H.size) (va_cwS 2 hts gX0_textAt_X0_digitAt rfl rfl rfl hd_X0_digitAt ⟨Nat.le_of_ble_eq_true rfl, Nat.le_of_ble_eq_true rfl⟩) fr hw hK hA rfl hl.1 rfl (Nat.le_of_ble_eq_true rfl) dX0_textAt_72 ⟨Nat.zero_le _, Nat.zero_le _⟩) fr hw hA (fun H locs hw => ?_)
              have e0_ := sm1 hf
              exact hret _ _ _ _ _ hw e0_ (Or.inl rfl) dX0_textAt_75
          · have hf := if_t c35 hf
            refine lv_bipush (v := 120) hx hb dX0_textAt_55 (by decide) ?_
            have e0_ := sm1 hf
            exact hret _ _ _ _ _ hw e0_ (Or.inl rfl) dX0_textAt_57
        · have hf := if_f c34 hf
          refine lv_aload_n hx hb dX0_textAt_37 rfl (lv_at hl 2 rfl) ?_
          refine w_get hx hb hts hi0 hown hK hw 0 rfl rfl 0 (by decide) q0 rfl (v := .int (oB.1 0)) rfl dX0_textAt_38 ?_
          refine lv_iload_n hx hb dX0_textAt_41 rfl (lv_at hl 1 rfl) ?_
          refine lv_iconst (v := 1) hx hb dX0_textAt_42 (by decide) ?_
          refine lv_isub hx hb dX0_textAt_43 ?_
          refine lv_iload_n hx hb dX0_textAt_44 rfl (lv_at hl 3 rfl) ?_
          refine lv_isub hx hb dX0_textAt_45 ?_
          obtain ⟨x42, g43, hf⟩ := bn1_e hf
          have fr := fr_X0_S o i cA oB
          refine go_i (run_s (As := [.int (oB.1 0), .int ((1 - 1) - a1)]) (rest := []) ⟨hx, hb, hml, hown, hts⟩ (k_X0_digitAt l D cA (oB.1 0) ((1 - 1) - a1) x42 g43 H.size) (va_cwS 2 hts gX0_textAt_X0_digitAt rfl rfl rfl hd_X0_digitAt ⟨Nat.le_of_ble_eq_true rfl, Nat.le_of_ble_eq_true rfl⟩) fr hw hK hA rfl hl.1 rfl (Nat.le_of_ble_eq_true rfl) dX0_textAt_46 ⟨Nat.zero_le _, Nat.zero_le _⟩) fr hw hA (fun H locs hw => ?_)
          have e0_ := sm1 hf
          exact hret _ _ _ _ _ hw e0_ (Or.inl rfl) dX0_textAt_49
  rw [hH, hlc] at goal
  exact goal
abbrev rmX0_remove : Room := { frames := 1, cells := 0, slots := 0, locals := 21 }
theorem hd_X0_remove : yX0_remove.cls = RX0 ∧ yX0_remove.cls ≠ "java/lang/invoke/MethodHandle" ∧ yX0_remove.cls ≠ "java/lang/invoke/VarHandle" ∧ (parseMethodDescriptor yX0_remove.desc).map (fun d => d.parameters.length) = some 1 := by decide +kernel
set_option maxHeartbeats 4000000 in
set_option maxRecDepth 100000 in
theorem k_X0_remove (l : Launch) (D : va_G) (cA : ClassId) (tx ty : Nat) (o : Nat → Nat) (i : Nat) (oB : St) (a1 : Int32) (oB' : St) (hf : f_X0_remove oB a1 = some (oB')) : Mv l yX0_remove wsX0_remove rmX0_remove D cA (z_X tx ty) [.ref (o i), .int a1] (wX0 o i cA oB) (wX0 o i cA oB') := by
  refine Mv.of (cc := cX0_remove) (maxL := 3) (by decide) rfl (Nat.le_of_ble_eq_true rfl) ?_
  intro p e s m below meth c A Q hx hb hml hown hts hK hA hZ hret ls hl hw
  replace hown : s.vm.findClass RX0 = some m.cls := hown
  have hl : lv_has ls 3 [(0, .ref (o i)), (1, .int a1)] := hl
  have hZo := z_X_ok tx ty
  have hi0 : ∀ w ∈ wsX00, w ∈ wsX0_remove := fun w h => List.mem_cons_of_mem _ (List.mem_append_right _ h)
  have q0 := hts (.fieldLink RX0 28 "ArcRings$Board" "dots" "I") (by decide +kernel)
  have q1 := hts (.fieldLink RX0 9 "ArcRings$Board" "xs" "[I") (by decide +kernel)
  have q2 := hts (.fieldLink RX0 15 "ArcRings$Board" "ys" "[I") (by decide +kernel)
  have q3 := hts (.fieldLink RX0 18 "ArcRings$Board" "turns" "[I") (by decide +kernel)
  have h_L11 : ∀ (K : St → Option (St)), (∀ (z0 : St), K z0 = some (oB') → ∀ (H : Heap) (locs : List Loc) (ls : Array Slot), Wd D A s.heap H locs (wX0 o i cA z0) → lv_has ls 3 [(0, .ref (o i))] → W p l e rmX0_remove s m ([.ref (o i), .int a1] : List Value).toArray below meth c H locs 0 0 Q (F0 m 69 ls [])) → ∀ (n : Nat) (v2 : Int32) (oB : St), f_X0_remove_L11 K n v2 oB = some (oB') → ∀ (H : Heap) (locs : List Loc) (ls : Array Slot), Wd D A s.heap H locs (wX0 o i cA oB) → lv_has ls 3 [(0, .ref (o i)), (2, .int v2)] → W p l e rmX0_remove s m ([.ref (o i), .int a1] : List Value).toArray below meth c H locs 0 0 Q (F0 m 11 ls []) := by
    intro K hK9 n
    induction n with
    | zero =>
      intro v2 oB hf
      have hf : none = some (oB') := hf
      cases hf
    | succ n ih =>
      intro v2 oB hf H locs ls hw hl
      have hf := (f_X0_remove_L11_s K n v2 oB).symm.trans hf
      refine lv_iload_n hx hb dX0_remove_11 rfl (lv_at hl 1 rfl) ?_
      refine lv_iconst (v := 1) hx hb dX0_remove_12 (by decide) ?_
      refine lv_iadd hx hb dX0_remove_13 ?_
      refine lv_aload_n hx hb dX0_remove_14 rfl (lv_at hl 0 rfl) ?_
      refine w_get hx hb hts hi0 hown hK hw 0 rfl rfl 2 (by decide) q0 rfl (v := .int (oB.1 2)) rfl dX0_remove_15 ?_
      refine lv_icmp_ge (tgt := 69) hx hb dX0_remove_18 (by decide) (fun c4 => ?_) (fun c4 => ?_)
      · have hf := if_t c4 hf
        exact hK9 oB hf H locs ls hw (lv_sub hl [0] rfl)
      · have hf := if_f c4 hf
        refine lv_aload_n hx hb dX0_remove_21 rfl (lv_at hl 0 rfl) ?_
        refine w_get hx hb hts hi0 hown hK hw 0 rfl rfl 8 (by decide) q1 rfl (v := .ref (o (i + 1))) rfl dX0_remove_22 ?_
        refine lv_iload_n hx hb dX0_remove_25 rfl (lv_at hl 1 rfl) ?_
        refine lv_aload_n hx hb dX0_remove_26 rfl (lv_at hl 0 rfl) ?_
        refine w_get hx hb hts hi0 hown hK hw 0 rfl rfl 8 (by decide) q1 rfl (v := .ref (o (i + 1))) rfl dX0_remove_27 ?_
        refine lv_iload_n hx hb dX0_remove_30 rfl (lv_at hl 1 rfl) ?_
        refine lv_iconst (v := 1) hx hb dX0_remove_31 (by decide) ?_
        refine lv_iadd hx hb dX0_remove_32 ?_
        obtain ⟨x5, g6, hf⟩ := bn1_e hf
        refine w_ald hx hb hK hw 1 rfl g6 dX0_remove_33 ?_
        obtain ⟨oB8, g7, hf⟩ := bn1_e hf
        refine w_aws hx hb hK hw 1 rfl g7 (fun z => (wX0 o i cA z)) (fun _ => rfl) dX0_remove_34 (fun H locs hw => ?_)
        refine lv_aload_n hx hb dX0_remove_35 rfl (lv_at hl 0 rfl) ?_
        refine w_get hx hb hts hi0 hown hK hw 0 rfl rfl 9 (by decide) q2 rfl (v := .ref (o (i + 2))) rfl dX0_remove_36 ?_
        refine lv_iload_n hx hb dX0_remove_39 rfl (lv_at hl 1 rfl) ?_
        refine lv_aload_n hx hb dX0_remove_40 rfl (lv_at hl 0 rfl) ?_
        refine w_get hx hb hts hi0 hown hK hw 0 rfl rfl 9 (by decide) q2 rfl (v := .ref (o (i + 2))) rfl dX0_remove_41 ?_
        refine lv_iload_n hx hb dX0_remove_44 rfl (lv_at hl 1 rfl) ?_
        refine lv_iconst (v := 1) hx hb dX0_remove_45 (by decide) ?_
        refine lv_iadd hx hb dX0_remove_46 ?_
        obtain ⟨x9, g10, hf⟩ := bn1_e hf
        refine w_ald hx hb hK hw 2 rfl g10 dX0_remove_47 ?_
        obtain ⟨oB12, g11, hf⟩ := bn1_e hf
        refine w_aws hx hb hK hw 2 rfl g11 (fun z => (wX0 o i cA z)) (fun _ => rfl) dX0_remove_48 (fun H locs hw => ?_)
        refine lv_aload_n hx hb dX0_remove_49 rfl (lv_at hl 0 rfl) ?_
        refine w_get hx hb hts hi0 hown hK hw 0 rfl rfl 10 (by decide) q3 rfl (v := .ref (o (i + 3))) rfl dX0_remove_50 ?_
        refine lv_iload_n hx hb dX0_remove_53 rfl (lv_at hl 1 rfl) ?_
        refine lv_aload_n hx hb dX0_remove_54 rfl (lv_at hl 0 rfl) ?_
        refine w_get hx hb hts hi0 hown hK hw 0 rfl rfl 10 (by decide) q3 rfl (v := .ref (o (i + 3))) rfl dX0_remove_55 ?_
        refine lv_iload_n hx hb dX0_remove_58 rfl (lv_at hl 1 rfl) ?_
        refine lv_iconst (v := 1) hx hb dX0_remove_59 (by decide) ?_
        refine lv_iadd hx hb dX0_remove_60 ?_
        obtain ⟨x13, g14, hf⟩ := bn1_e hf
        refine w_ald hx hb hK hw 3 rfl g14 dX0_remove_61 ?_
        obtain ⟨oB16, g15, hf⟩ := bn1_e hf
        refine w_aws hx hb hK hw 3 rfl g15 (fun z => (wX0 o i cA z)) (fun _ => rfl) dX0_remove_62 (fun H locs hw => ?_)
        refine lv_iinc (v := v2 + 1) (lv' := [(2, .int (v2 + 1)), (0, .ref (o i))]) hx hb dX0_remove_63 hl (k := 1) rfl (by rfl) (by decide) rfl (fun ls hl => ?_)
        refine lv_goto (tgt := 11) hx hb dX0_remove_66 (by decide) ?_
        exact ih (v2 + 1) oB16 hf H locs ls hw (lv_sub hl [1, 0] rfl)
  unfold f_X0_remove at hf
  obtain ⟨H, hH⟩ : ∃ H, H = s.heap := ⟨_, rfl⟩
  obtain ⟨locs, hlc⟩ : ∃ locs : List Loc, locs = [] := ⟨_, rfl⟩
  have hw : Wd D A s.heap H locs (wX0 o i cA oB) := by rw [hH, hlc]; exact hw
  have goal : W p l e rmX0_remove s m ([.ref (o i), .int a1] : List Value).toArray below meth c H locs 0 0 Q (F0 m 0 ls []) := by
    clear hH hlc
    refine lv_aload_n hx hb dX0_remove_0 rfl (lv_at hl 0 rfl) ?_
    refine lv_iload_n hx hb dX0_remove_1 rfl (lv_at hl 1 rfl) ?_
    obtain ⟨x1, g2, hf⟩ := bn1_e hf
    have fr := fr_X0_X0_oB o i cA oB oB
    refine go_i (run_v (As := [.int a1]) (rest := []) ⟨hx, hb, hml, hown, hts⟩ (k_X0_has l D cA tx ty o i oB a1 x1 g2 H.size) (cwV 1 hts gX0_remove_X0_has rfl rfl rfl hd_X0_has ⟨Nat.le_of_ble_eq_true rfl, Nat.le_of_ble_eq_true rfl⟩) fr hw hK hA hZo hZ (ci := 0) rfl rfl rfl rfl hl.1 rfl (Nat.le_of_ble_eq_true rfl) dX0_remove_2 ⟨Nat.zero_le _, Nat.zero_le _⟩) fr hw hA (fun H locs hw => ?_)
    refine lv_if_ne (tgt := 9) hx hb dX0_remove_5 (by decide) (fun c3 => ?_) (fun c3 => ?_)
    · have hf := if_f c3 hf
      refine lv_iload_n hx hb dX0_remove_9 rfl (lv_at hl 1 rfl) ?_
      refine lv_istore_n (lv' := [(2, .int a1), (0, .ref (o i)), (1, .int a1)]) hx hb dX0_remove_10 rfl hl (by decide) rfl (fun ls hl => ?_)
      refine h_L11  _ ?_ _ a1 oB hf H locs ls hw (lv_sub hl [1, 0] rfl)
      intro oB17 hf H locs ls hw hl
      refine lv_aload_n hx hb dX0_remove_69 rfl (lv_at hl 0 rfl) ?_
      refine lv_dup hx hb dX0_remove_70 rfl ?_
      refine w_get hx hb hts hi0 hown hK hw 0 rfl rfl 2 (by decide) q0 rfl (v := .int (oB17.1 2)) rfl dX0_remove_71 ?_
      refine lv_iconst (v := 1) hx hb dX0_remove_74 (by decide) ?_
      refine lv_isub hx hb dX0_remove_75 ?_
      refine w_put (ws' := (wX0 o i cA ((sI oB17 2 ((oB17.1 2) - 1))))) hx hb hts hi0 tyX0 tyX0_ok nmX0 hown hK hw 0 rfl rfl 2 (by decide) q0 rfl rfl rfl rfl (Nat.le_of_ble_eq_true rfl) rfl dX0_remove_76 (fun H locs hw => ?_)
      have e0_ := sm1 hf
      exact hret _ _ _ _ (by rw [← e0_]; exact hw) dX0_remove_79
    · have hf := if_t c3 hf
      have e0_ := sm1 hf
      exact hret _ _ _ _ (by rw [← e0_]; exact hw) dX0_remove_8
  rw [hH, hlc] at goal
  exact goal
abbrev rmX0_allows : Room := { frames := 0, cells := 0, slots := 0, locals := 0 }
theorem hd_X0_allows : yX0_allows.cls = RX0 ∧ yX0_allows.cls ≠ "java/lang/invoke/MethodHandle" ∧ yX0_allows.cls ≠ "java/lang/invoke/VarHandle" ∧ (parseMethodDescriptor yX0_allows.desc).map (fun d => d.parameters.length) = some 2 := by decide +kernel
set_option maxHeartbeats 4000000 in
set_option maxRecDepth 100000 in
theorem k_X0_allows (l : Launch) (D : va_G) (cA : ClassId) (tx ty : Nat) (o : Nat → Nat) (i : Nat) (oB : St) (a1 : Int32) (a2 : Int32) (r : Int32) (hf : f_X0_allows oB a1 a2 = some (r)) : Mi l yX0_allows wsX0_allows rmX0_allows D cA (z_X tx ty) [.ref (o i), .int a1, .int a2] (wX0 o i cA oB) r (wX0 o i cA oB) := by
  refine Mi.of (cc := cX0_allows) (maxL := 3) (ret := (some .boolean)) (plainFor_of_name (by decide)) rfl (Nat.le_of_ble_eq_true rfl) (Or.inr rfl) ?_
  intro p e s m below meth c A Q hx hb hml hown hts hK hA hZ hret ls hl hw
  replace hown : s.vm.findClass RX0 = some m.cls := hown
  have hl : lv_has ls 3 [(0, .ref (o i)), (1, .int a1), (2, .int a2)] := hl
  have hZo := z_X_ok tx ty
  have hi0 : ∀ w ∈ wsX00, w ∈ wsX0_allows := fun w h => List.mem_cons_of_mem _ (List.mem_append_right _ h)
  have q0 := hts (.fieldLink RX0 34 "ArcRings$Board" "high" "I") (by decide +kernel)
  have q1 := hts (.fieldLink RX0 31 "ArcRings$Board" "low" "I") (by decide +kernel)
  unfold f_X0_allows at hf
  obtain ⟨H, hH⟩ : ∃ H, H = s.heap := ⟨_, rfl⟩
  obtain ⟨locs, hlc⟩ : ∃ locs : List Loc, locs = [] := ⟨_, rfl⟩
  have hw : Wd D A s.heap H locs (wX0 o i cA oB) := by rw [hH, hlc]; exact hw
  have goal : W p l e rmX0_allows s m ([.ref (o i), .int a1, .int a2] : List Value).toArray below meth c H locs 0 0 Q (F0 m 0 ls []) := by
    clear hH hlc
    refine lv_iload_n hx hb dX0_allows_0 rfl (lv_at hl 1 rfl) ?_
    by_cases c1 : a1 = 0
    · have hf := if_t c1 hf
      refine lv_tableIn (tgt := 36) hx hb dX0_allows_1 (by rw [c1]; decide) (by rw [c1]; decide) (by rw [c1]; rfl) (by decide) ?_
      refine lv_iload_n hx hb dX0_allows_36 rfl (lv_at hl 2 rfl) ?_
      refine lv_iconst (v := 1) hx hb dX0_allows_37 (by decide) ?_
      refine lv_icmp_lt (tgt := 53) hx hb dX0_allows_38 (by decide) (fun c2 => ?_) (fun c2 => ?_)
      · have hf := if_t c2 hf
        refine lv_iconst (v := 0) hx hb dX0_allows_53 (by decide) ?_
        have e0_ := sm1 hf
        exact hret _ _ _ _ _ hw e0_ (Or.inr (Or.inl rfl)) dX0_allows_54
      · have hf := if_f c2 hf
        refine lv_iload_n hx hb dX0_allows_41 rfl (lv_at hl 2 rfl) ?_
        refine lv_aload_n hx hb dX0_allows_42 rfl (lv_at hl 0 rfl) ?_
        refine w_get hx hb hts hi0 hown hK hw 0 rfl rfl 4 (by decide) q0 rfl (v := .int (oB.1 4)) rfl dX0_allows_43 ?_
        refine lv_icmp_gt (tgt := 53) hx hb dX0_allows_46 (by decide) (fun c3 => ?_) (fun c3 => ?_)
        · have hf := if_t c3 hf
          refine lv_iconst (v := 0) hx hb dX0_allows_53 (by decide) ?_
          have e0_ := sm1 hf
          exact hret _ _ _ _ _ hw e0_ (Or.inr (Or.inl rfl)) dX0_allows_54
        · have hf := if_f c3 hf
          refine lv_iconst (v := 1) hx hb dX0_allows_49 (by decide) ?_
          refine lv_goto (tgt := 54) hx hb dX0_allows_50 (by decide) ?_
          have e0_ := sm1 hf
          exact hret _ _ _ _ _ hw e0_ (Or.inr (Or.inr rfl)) dX0_allows_54
    have hf := if_f c1 hf
    by_cases c4 : a1 = 1
    · have hf := if_t c4 hf
      refine lv_tableIn (tgt := 55) hx hb dX0_allows_1 (by rw [c4]; decide) (by rw [c4]; decide) (by rw [c4]; rfl) (by decide) ?_
      refine lv_iload_n hx hb dX0_allows_55 rfl (lv_at hl 2 rfl) ?_
      refine lv_aload_n hx hb dX0_allows_56 rfl (lv_at hl 0 rfl) ?_
      refine w_get hx hb hts hi0 hown hK hw 0 rfl rfl 3 (by decide) q1 rfl (v := .int (oB.1 3)) rfl dX0_allows_57 ?_
      refine lv_icmp_lt (tgt := 73) hx hb dX0_allows_60 (by decide) (fun c5 => ?_) (fun c5 => ?_)
      · have hf := if_t c5 hf
        refine lv_iconst (v := 0) hx hb dX0_allows_73 (by decide) ?_
        have e0_ := sm1 hf
        exact hret _ _ _ _ _ hw e0_ (Or.inr (Or.inl rfl)) dX0_allows_74
      · have hf := if_f c5 hf
        refine lv_iload_n hx hb dX0_allows_63 rfl (lv_at hl 2 rfl) ?_
        refine lv_bipush (v := 22) hx hb dX0_allows_64 (by decide) ?_
        refine lv_icmp_gt (tgt := 73) hx hb dX0_allows_66 (by decide) (fun c6 => ?_) (fun c6 => ?_)
        · have hf := if_t c6 hf
          refine lv_iconst (v := 0) hx hb dX0_allows_73 (by decide) ?_
          have e0_ := sm1 hf
          exact hret _ _ _ _ _ hw e0_ (Or.inr (Or.inl rfl)) dX0_allows_74
        · have hf := if_f c6 hf
          refine lv_iconst (v := 1) hx hb dX0_allows_69 (by decide) ?_
          refine lv_goto (tgt := 74) hx hb dX0_allows_70 (by decide) ?_
          have e0_ := sm1 hf
          exact hret _ _ _ _ _ hw e0_ (Or.inr (Or.inr rfl)) dX0_allows_74
    have hf := if_f c4 hf
    by_cases c7 : a1 = 2
    · have hf := if_t c7 hf
      refine lv_tableIn (tgt := 75) hx hb dX0_allows_1 (by rw [c7]; decide) (by rw [c7]; decide) (by rw [c7]; rfl) (by decide) ?_
      refine lv_iload_n hx hb dX0_allows_75 rfl (lv_at hl 2 rfl) ?_
      refine lv_if_lt (tgt := 88) hx hb dX0_allows_76 (by decide) (fun c8 => ?_) (fun c8 => ?_)
      · have hf := if_t c8 hf
        refine lv_iconst (v := 0) hx hb dX0_allows_88 (by decide) ?_
        have e0_ := sm1 hf
        exact hret _ _ _ _ _ hw e0_ (Or.inr (Or.inl rfl)) dX0_allows_89
      · have hf := if_f c8 hf
        refine lv_iload_n hx hb dX0_allows_79 rfl (lv_at hl 2 rfl) ?_
        refine lv_iconst (v := 4) hx hb dX0_allows_80 (by decide) ?_
        refine lv_icmp_gt (tgt := 88) hx hb dX0_allows_81 (by decide) (fun c9 => ?_) (fun c9 => ?_)
        · have hf := if_t c9 hf
          refine lv_iconst (v := 0) hx hb dX0_allows_88 (by decide) ?_
          have e0_ := sm1 hf
          exact hret _ _ _ _ _ hw e0_ (Or.inr (Or.inl rfl)) dX0_allows_89
        · have hf := if_f c9 hf
          refine lv_iconst (v := 1) hx hb dX0_allows_84 (by decide) ?_
          refine lv_goto (tgt := 89) hx hb dX0_allows_85 (by decide) ?_
          have e0_ := sm1 hf
          exact hret _ _ _ _ _ hw e0_ (Or.inr (Or.inr rfl)) dX0_allows_89
    have hf := if_f c7 hf
    by_cases c10 : a1 = 3
    · have hf := if_t c10 hf
      refine lv_tableIn (tgt := 90) hx hb dX0_allows_1 (by rw [c10]; decide) (by rw [c10]; decide) (by rw [c10]; rfl) (by decide) ?_
      refine lv_iload_n hx hb dX0_allows_90 rfl (lv_at hl 2 rfl) ?_
      refine lv_iconst (v := 2) hx hb dX0_allows_91 (by decide) ?_
      refine lv_icmp_lt (tgt := 105) hx hb dX0_allows_92 (by decide) (fun c11 => ?_) (fun c11 => ?_)
      · have hf := if_t c11 hf
        refine lv_iconst (v := 0) hx hb dX0_allows_105 (by decide) ?_
        have e0_ := sm1 hf
        exact hret _ _ _ _ _ hw e0_ (Or.inr (Or.inl rfl)) dX0_allows_106
      · have hf := if_f c11 hf
        refine lv_iload_n hx hb dX0_allows_95 rfl (lv_at hl 2 rfl) ?_
        refine lv_bipush (v := 14) hx hb dX0_allows_96 (by decide) ?_
        refine lv_icmp_gt (tgt := 105) hx hb dX0_allows_98 (by decide) (fun c12 => ?_) (fun c12 => ?_)
        · have hf := if_t c12 hf
          refine lv_iconst (v := 0) hx hb dX0_allows_105 (by decide) ?_
          have e0_ := sm1 hf
          exact hret _ _ _ _ _ hw e0_ (Or.inr (Or.inl rfl)) dX0_allows_106
        · have hf := if_f c12 hf
          refine lv_iconst (v := 1) hx hb dX0_allows_101 (by decide) ?_
          refine lv_goto (tgt := 106) hx hb dX0_allows_102 (by decide) ?_
          have e0_ := sm1 hf
          exact hret _ _ _ _ _ hw e0_ (Or.inr (Or.inr rfl)) dX0_allows_106
    have hf := if_f c10 hf
    by_cases c13 : a1 = 4
    · have hf := if_t c13 hf
      refine lv_tableIn (tgt := 107) hx hb dX0_allows_1 (by rw [c13]; decide) (by rw [c13]; decide) (by rw [c13]; rfl) (by decide) ?_
      refine lv_iload_n hx hb dX0_allows_107 rfl (lv_at hl 2 rfl) ?_
      refine lv_iconst (v := 1) hx hb dX0_allows_108 (by decide) ?_
      refine lv_icmp_lt (tgt := 122) hx hb dX0_allows_109 (by decide) (fun c14 => ?_) (fun c14 => ?_)
      · have hf := if_t c14 hf
        refine lv_iconst (v := 0) hx hb dX0_allows_122 (by decide) ?_
        have e0_ := sm1 hf
        exact hret _ _ _ _ _ hw e0_ (Or.inr (Or.inl rfl)) dX0_allows_123
      · have hf := if_f c14 hf
        refine lv_iload_n hx hb dX0_allows_112 rfl (lv_at hl 2 rfl) ?_
        refine lv_bipush (v := 8) hx hb dX0_allows_113 (by decide) ?_
        refine lv_icmp_gt (tgt := 122) hx hb dX0_allows_115 (by decide) (fun c15 => ?_) (fun c15 => ?_)
        · have hf := if_t c15 hf
          refine lv_iconst (v := 0) hx hb dX0_allows_122 (by decide) ?_
          have e0_ := sm1 hf
          exact hret _ _ _ _ _ hw e0_ (Or.inr (Or.inl rfl)) dX0_allows_123
        · have hf := if_f c15 hf
          refine lv_iconst (v := 1) hx hb dX0_allows_118 (by decide) ?_
          refine lv_goto (tgt := 123) hx hb dX0_allows_119 (by decide) ?_
          have e0_ := sm1 hf
          exact hret _ _ _ _ _ hw e0_ (Or.inr (Or.inr rfl)) dX0_allows_123
    have hf := if_f c13 hf
    refine lv_tableOut (tgt := 124) hx hb dX0_allows_1 (w_out (n := 5) (by decide) (fun k hk => ?_)) (by decide) ?_
    · match k, hk with
      | 0, _ => exact c1
      | 1, _ => exact c4
      | 2, _ => exact c7
      | 3, _ => exact c10
      | 4, _ => exact c13
      | k + 5, hk => omega
    refine lv_iconst (v := 0) hx hb dX0_allows_124 (by decide) ?_
    have e0_ := sm1 hf
    exact hret _ _ _ _ _ hw e0_ (Or.inr (Or.inl rfl)) dX0_allows_125
  rw [hH, hlc] at goal
  exact goal
abbrev rmX0_setBound : Room := { frames := 0, cells := 0, slots := 0, locals := 0 }
theorem hd_X0_setBound : yX0_setBound.cls = RX0 ∧ yX0_setBound.cls ≠ "java/lang/invoke/MethodHandle" ∧ yX0_setBound.cls ≠ "java/lang/invoke/VarHandle" ∧ (parseMethodDescriptor yX0_setBound.desc).map (fun d => d.parameters.length) = some 2 := by decide +kernel
set_option maxHeartbeats 4000000 in
set_option maxRecDepth 100000 in
theorem k_X0_setBound (l : Launch) (D : va_G) (cA : ClassId) (tx ty : Nat) (o : Nat → Nat) (i : Nat) (oB : St) (a1 : Int32) (a2 : Int32) (oB' : St) (hf : f_X0_setBound oB a1 a2 = some (oB')) : Mv l yX0_setBound wsX0_setBound rmX0_setBound D cA (z_X tx ty) [.ref (o i), .int a1, .int a2] (wX0 o i cA oB) (wX0 o i cA oB') := by
  refine Mv.of (cc := cX0_setBound) (maxL := 3) (by decide) rfl (Nat.le_of_ble_eq_true rfl) ?_
  intro p e s m below meth c A Q hx hb hml hown hts hK hA hZ hret ls hl hw
  replace hown : s.vm.findClass RX0 = some m.cls := hown
  have hl : lv_has ls 3 [(0, .ref (o i)), (1, .int a1), (2, .int a2)] := hl
  have hZo := z_X_ok tx ty
  have hi0 : ∀ w ∈ wsX00, w ∈ wsX0_setBound := fun w h => List.mem_cons_of_mem _ (List.mem_append_right _ h)
  have q0 := hts (.fieldLink RX0 31 "ArcRings$Board" "low" "I") (by decide +kernel)
  have q1 := hts (.fieldLink RX0 34 "ArcRings$Board" "high" "I") (by decide +kernel)
  have q2 := hts (.fieldLink RX0 37 "ArcRings$Board" "slack" "I") (by decide +kernel)
  have q3 := hts (.fieldLink RX0 40 "ArcRings$Board" "need" "I") (by decide +kernel)
  have q4 := hts (.fieldLink RX0 43 "ArcRings$Board" "round" "I") (by decide +kernel)
  unfold f_X0_setBound at hf
  obtain ⟨H, hH⟩ : ∃ H, H = s.heap := ⟨_, rfl⟩
  obtain ⟨locs, hlc⟩ : ∃ locs : List Loc, locs = [] := ⟨_, rfl⟩
  have hw : Wd D A s.heap H locs (wX0 o i cA oB) := by rw [hH, hlc]; exact hw
  have goal : W p l e rmX0_setBound s m ([.ref (o i), .int a1, .int a2] : List Value).toArray below meth c H locs 0 0 Q (F0 m 0 ls []) := by
    clear hH hlc
    refine lv_iload_n hx hb dX0_setBound_0 rfl (lv_at hl 1 rfl) ?_
    by_cases c1 : a1 = 0
    · have hf := if_t c1 hf
      refine lv_tableIn (tgt := 36) hx hb dX0_setBound_1 (by rw [c1]; decide) (by rw [c1]; decide) (by rw [c1]; rfl) (by decide) ?_
      refine lv_aload_n hx hb dX0_setBound_36 rfl (lv_at hl 0 rfl) ?_
      refine lv_iload_n hx hb dX0_setBound_37 rfl (lv_at hl 2 rfl) ?_
      refine w_put (ws' := (wX0 o i cA ((sI oB 3 a2)))) hx hb hts hi0 tyX0 tyX0_ok nmX0 hown hK hw 0 rfl rfl 3 (by decide) q0 rfl rfl rfl rfl (Nat.le_of_ble_eq_true rfl) rfl dX0_setBound_38 (fun H locs hw => ?_)
      refine lv_goto (tgt := 76) hx hb dX0_setBound_41 (by decide) ?_
      have e0_ := sm1 hf
      exact hret _ _ _ _ (by rw [← e0_]; exact hw) dX0_setBound_76
    have hf := if_f c1 hf
    by_cases c2 : a1 = 1
    · have hf := if_t c2 hf
      refine lv_tableIn (tgt := 44) hx hb dX0_setBound_1 (by rw [c2]; decide) (by rw [c2]; decide) (by rw [c2]; rfl) (by decide) ?_
      refine lv_aload_n hx hb dX0_setBound_44 rfl (lv_at hl 0 rfl) ?_
      refine lv_iload_n hx hb dX0_setBound_45 rfl (lv_at hl 2 rfl) ?_
      refine w_put (ws' := (wX0 o i cA ((sI oB 4 a2)))) hx hb hts hi0 tyX0 tyX0_ok nmX0 hown hK hw 0 rfl rfl 4 (by decide) q1 rfl rfl rfl rfl (Nat.le_of_ble_eq_true rfl) rfl dX0_setBound_46 (fun H locs hw => ?_)
      refine lv_goto (tgt := 76) hx hb dX0_setBound_49 (by decide) ?_
      have e0_ := sm1 hf
      exact hret _ _ _ _ (by rw [← e0_]; exact hw) dX0_setBound_76
    have hf := if_f c2 hf
    by_cases c3 : a1 = 2
    · have hf := if_t c3 hf
      refine lv_tableIn (tgt := 52) hx hb dX0_setBound_1 (by rw [c3]; decide) (by rw [c3]; decide) (by rw [c3]; rfl) (by decide) ?_
      refine lv_aload_n hx hb dX0_setBound_52 rfl (lv_at hl 0 rfl) ?_
      refine lv_iload_n hx hb dX0_setBound_53 rfl (lv_at hl 2 rfl) ?_
      refine w_put (ws' := (wX0 o i cA ((sI oB 5 a2)))) hx hb hts hi0 tyX0 tyX0_ok nmX0 hown hK hw 0 rfl rfl 5 (by decide) q2 rfl rfl rfl rfl (Nat.le_of_ble_eq_true rfl) rfl dX0_setBound_54 (fun H locs hw => ?_)
      refine lv_goto (tgt := 76) hx hb dX0_setBound_57 (by decide) ?_
      have e0_ := sm1 hf
      exact hret _ _ _ _ (by rw [← e0_]; exact hw) dX0_setBound_76
    have hf := if_f c3 hf
    by_cases c4 : a1 = 3
    · have hf := if_t c4 hf
      refine lv_tableIn (tgt := 60) hx hb dX0_setBound_1 (by rw [c4]; decide) (by rw [c4]; decide) (by rw [c4]; rfl) (by decide) ?_
      refine lv_aload_n hx hb dX0_setBound_60 rfl (lv_at hl 0 rfl) ?_
      refine lv_iload_n hx hb dX0_setBound_61 rfl (lv_at hl 2 rfl) ?_
      refine w_put (ws' := (wX0 o i cA ((sI oB 6 a2)))) hx hb hts hi0 tyX0 tyX0_ok nmX0 hown hK hw 0 rfl rfl 6 (by decide) q3 rfl rfl rfl rfl (Nat.le_of_ble_eq_true rfl) rfl dX0_setBound_62 (fun H locs hw => ?_)
      refine lv_goto (tgt := 76) hx hb dX0_setBound_65 (by decide) ?_
      have e0_ := sm1 hf
      exact hret _ _ _ _ (by rw [← e0_]; exact hw) dX0_setBound_76
    have hf := if_f c4 hf
    by_cases c5 : a1 = 4
    · have hf := if_t c5 hf
      refine lv_tableIn (tgt := 68) hx hb dX0_setBound_1 (by rw [c5]; decide) (by rw [c5]; decide) (by rw [c5]; rfl) (by decide) ?_
      refine lv_aload_n hx hb dX0_setBound_68 rfl (lv_at hl 0 rfl) ?_
      refine lv_iload_n hx hb dX0_setBound_69 rfl (lv_at hl 2 rfl) ?_
      refine w_put (ws' := (wX0 o i cA ((sI oB 7 a2)))) hx hb hts hi0 tyX0 tyX0_ok nmX0 hown hK hw 0 rfl rfl 7 (by decide) q4 rfl rfl rfl rfl (Nat.le_of_ble_eq_true rfl) rfl dX0_setBound_70 (fun H locs hw => ?_)
      refine lv_goto (tgt := 76) hx hb dX0_setBound_73 (by decide) ?_
      have e0_ := sm1 hf
      exact hret _ _ _ _ (by rw [← e0_]; exact hw) dX0_setBound_76
    have hf := if_f c5 hf
    refine lv_tableOut (tgt := 76) hx hb dX0_setBound_1 (w_out (n := 5) (by decide) (fun k hk => ?_)) (by decide) ?_
    · match k, hk with
      | 0, _ => exact c1
      | 1, _ => exact c2
      | 2, _ => exact c3
      | 3, _ => exact c4
      | 4, _ => exact c5
      | k + 5, hk => omega
    have e0_ := sm1 hf
    exact hret _ _ _ _ (by rw [← e0_]; exact hw) dX0_setBound_76
  rw [hH, hlc] at goal
  exact goal
abbrev rmX0_agrees : Room := { frames := 0, cells := 0, slots := 0, locals := 0 }
theorem hd_X0_agrees : yX0_agrees.cls = RX0 ∧ yX0_agrees.cls ≠ "java/lang/invoke/MethodHandle" ∧ yX0_agrees.cls ≠ "java/lang/invoke/VarHandle" ∧ (parseMethodDescriptor yX0_agrees.desc).map (fun d => d.parameters.length) = some 4 := by decide +kernel
set_option maxHeartbeats 4000000 in
set_option maxRecDepth 100000 in
theorem k_X0_agrees (l : Launch) (D : va_G) (cA : ClassId) (tx ty : Nat) (o : Nat → Nat) (i : Nat) (oB : St) (a1 : Int32) (a2 : Int32) (a3 : Int32) (a4 : Int32) (r : Int32) (hf : f_X0_agrees oB a1 a2 a3 a4 = some (r)) : Mi l yX0_agrees wsX0_agrees rmX0_agrees D cA (z_X tx ty) [.ref (o i), .int a1, .int a2, .int a3, .int a4] (wX0 o i cA oB) r (wX0 o i cA oB) := by
  refine Mi.of (cc := cX0_agrees) (maxL := 10) (ret := (some .boolean)) (plainFor_of_name (by decide)) rfl (Nat.le_of_ble_eq_true rfl) (Or.inr rfl) ?_
  intro p e s m below meth c A Q hx hb hml hown hts hK hA hZ hret ls hl hw
  replace hown : s.vm.findClass RX0 = some m.cls := hown
  have hl : lv_has ls 10 [(0, .ref (o i)), (1, .int a1), (2, .int a2), (3, .int a3), (4, .int a4)] := hl
  have hZo := z_X_ok tx ty
  have hi0 : ∀ w ∈ wsX00, w ∈ wsX0_agrees := fun w h => List.mem_cons_of_mem _ (List.mem_append_right _ h)
  have q0 := hts (.fieldLink RX0 18 "ArcRings$Board" "turns" "[I") (by decide +kernel)
  have q1 := hts (.fieldLink RX0 9 "ArcRings$Board" "xs" "[I") (by decide +kernel)
  have q2 := hts (.fieldLink RX0 15 "ArcRings$Board" "ys" "[I") (by decide +kernel)
  unfold f_X0_agrees at hf
  obtain ⟨H, hH⟩ : ∃ H, H = s.heap := ⟨_, rfl⟩
  obtain ⟨locs, hlc⟩ : ∃ locs : List Loc, locs = [] := ⟨_, rfl⟩
  have hw : Wd D A s.heap H locs (wX0 o i cA oB) := by rw [hH, hlc]; exact hw
  have goal : W p l e rmX0_agrees s m ([.ref (o i), .int a1, .int a2, .int a3, .int a4] : List Value).toArray below meth c H locs 0 0 Q (F0 m 0 ls []) := by
    clear hH hlc
    refine lv_aload_n hx hb dX0_agrees_0 rfl (lv_at hl 0 rfl) ?_
    refine w_get hx hb hts hi0 hown hK hw 0 rfl rfl 10 (by decide) q0 rfl (v := .ref (o (i + 3))) rfl dX0_agrees_1 ?_
    refine lv_iload_n hx hb dX0_agrees_4 rfl (lv_at hl 1 rfl) ?_
    obtain ⟨x1, g2, hf⟩ := bn1_e hf
    refine w_ald hx hb hK hw 3 rfl g2 dX0_agrees_5 ?_
    refine lv_istore (lv' := [(5, .int x1), (0, .ref (o i)), (1, .int a1), (2, .int a2), (3, .int a3), (4, .int a4)]) hx hb dX0_agrees_6 hl (by decide) rfl (fun ls hl => ?_)
    refine lv_iload hx hb dX0_agrees_8 (lv_at hl 0 rfl) ?_
    refine lv_if_lt (tgt := 20) hx hb dX0_agrees_10 (by decide) (fun c3 => ?_) (fun c3 => ?_)
    · have hf := if_t c3 hf
      refine lv_iconst (v := 1) hx hb dX0_agrees_20 (by decide) ?_
      have e0_ := sm1 hf
      exact hret _ _ _ _ _ hw e0_ (Or.inr (Or.inr rfl)) dX0_agrees_21
    · have hf := if_f c3 hf
      refine lv_iload hx hb dX0_agrees_13 (lv_at hl 0 rfl) ?_
      refine lv_bipush (v := 8) hx hb dX0_agrees_15 (by decide) ?_
      refine lv_icmp_lt (tgt := 22) hx hb dX0_agrees_17 (by decide) (fun c4 => ?_) (fun c4 => ?_)
      · have hf := if_t c4 hf
        refine lv_iload_n hx hb dX0_agrees_22 rfl (lv_at hl 3 rfl) ?_
        refine lv_iload hx hb dX0_agrees_23 (lv_at hl 5 rfl) ?_
        refine lv_aload_n hx hb dX0_agrees_25 rfl (lv_at hl 1 rfl) ?_
        refine w_get hx hb hts hi0 hown hK hw 0 rfl rfl 8 (by decide) q1 rfl (v := .ref (o (i + 1))) rfl dX0_agrees_26 ?_
        refine lv_iload_n hx hb dX0_agrees_29 rfl (lv_at hl 2 rfl) ?_
        obtain ⟨x5, g6, hf⟩ := bn1_e hf
        refine w_ald hx hb hK hw 1 rfl g6 dX0_agrees_30 ?_
        refine lv_imul hx hb dX0_agrees_31 ?_
        refine lv_isub hx hb dX0_agrees_32 ?_
        refine lv_istore (lv' := [(6, .int (a2 - (a4 * x5))), (5, .int x1), (0, .ref (o i)), (1, .int a1), (2, .int a2), (3, .int a3), (4, .int a4)]) hx hb dX0_agrees_33 hl (by decide) rfl (fun ls hl => ?_)
        refine lv_iload_n hx hb dX0_agrees_35 rfl (lv_at hl 5 rfl) ?_
        refine lv_iload hx hb dX0_agrees_36 (lv_at hl 6 rfl) ?_
        refine lv_aload_n hx hb dX0_agrees_38 rfl (lv_at hl 2 rfl) ?_
        refine w_get hx hb hts hi0 hown hK hw 0 rfl rfl 9 (by decide) q2 rfl (v := .ref (o (i + 2))) rfl dX0_agrees_39 ?_
        refine lv_iload_n hx hb dX0_agrees_42 rfl (lv_at hl 3 rfl) ?_
        obtain ⟨x7, g8, hf⟩ := bn1_e hf
        refine w_ald hx hb hK hw 2 rfl g8 dX0_agrees_43 ?_
        refine lv_imul hx hb dX0_agrees_44 ?_
        refine lv_isub hx hb dX0_agrees_45 ?_
        refine lv_istore (lv' := [(7, .int (a3 - (a4 * x7))), (6, .int (a2 - (a4 * x5))), (5, .int x1), (0, .ref (o i)), (1, .int a1), (2, .int a2), (3, .int a3), (4, .int a4)]) hx hb dX0_agrees_46 hl (by decide) rfl (fun ls hl => ?_)
        refine lv_iload hx hb dX0_agrees_48 (lv_at hl 1 rfl) ?_
        refine va_getsN hx hb hZ.1 hw.2.2 hown (va_Nw.use rfl (hZ.2.2.2.2.1 (RX0, 64, "ArcRings", "TURN_X", "[I") (List.mem_of_getElem? (i := 0) rfl))) (fun _ h => h) dX0_agrees_50 ?_
        refine lv_iload hx hb dX0_agrees_53 (lv_at hl 2 rfl) ?_
        obtain ⟨x9, g10, hf⟩ := bn1_e hf
        refine w_tald hx hb hZ.2.2.1 hw g10 dX0_agrees_55 ?_
        refine lv_imul hx hb dX0_agrees_56 ?_
        refine lv_iload hx hb dX0_agrees_57 (lv_at hl 0 rfl) ?_
        refine va_getsN hx hb hZ.2.1 hw.2.2 hown (va_Nw.use rfl (hZ.2.2.2.2.1 (RX0, 67, "ArcRings", "TURN_Y", "[I") (List.mem_of_getElem? (i := 1) rfl))) (fun _ h => h) dX0_agrees_59 ?_
        refine lv_iload hx hb dX0_agrees_62 (lv_at hl 2 rfl) ?_
        obtain ⟨x11, g12, hf⟩ := bn1_e hf
        refine w_tald hx hb hZ.2.2.2.1 hw g12 dX0_agrees_64 ?_
        refine lv_imul hx hb dX0_agrees_65 ?_
        refine lv_iadd hx hb dX0_agrees_66 ?_
        obtain ⟨y13, e14, hf⟩ := bn1_e hf
        refine w_nmi (sm1 e14) ?_
        refine lv_istore (lv' := [(8, .int y13), (7, .int (a3 - (a4 * x7))), (6, .int (a2 - (a4 * x5))), (5, .int x1), (0, .ref (o i)), (1, .int a1), (2, .int a2), (3, .int a3), (4, .int a4)]) hx hb dX0_agrees_67 hl (by decide) rfl (fun ls hl => ?_)
        refine lv_iload hx hb dX0_agrees_69 (lv_at hl 2 rfl) ?_
        refine va_getsN hx hb hZ.2.1 hw.2.2 hown (va_Nw.use rfl (hZ.2.2.2.2.1 (RX0, 67, "ArcRings", "TURN_Y", "[I") (List.mem_of_getElem? (i := 1) rfl))) (fun _ h => h) dX0_agrees_71 ?_
        refine lv_iload hx hb dX0_agrees_74 (lv_at hl 3 rfl) ?_
        obtain ⟨x15, g16, hf⟩ := bn1_e hf
        refine w_tald hx hb hZ.2.2.2.1 hw g16 dX0_agrees_76 ?_
        refine lv_imul hx hb dX0_agrees_77 ?_
        refine lv_iload hx hb dX0_agrees_78 (lv_at hl 1 rfl) ?_
        refine va_getsN hx hb hZ.1 hw.2.2 hown (va_Nw.use rfl (hZ.2.2.2.2.1 (RX0, 64, "ArcRings", "TURN_X", "[I") (List.mem_of_getElem? (i := 0) rfl))) (fun _ h => h) dX0_agrees_80 ?_
        refine lv_iload hx hb dX0_agrees_83 (lv_at hl 3 rfl) ?_
        obtain ⟨x17, g18, hf⟩ := bn1_e hf
        refine w_tald hx hb hZ.2.2.1 hw g18 dX0_agrees_85 ?_
        refine lv_imul hx hb dX0_agrees_86 ?_
        refine lv_isub hx hb dX0_agrees_87 ?_
        obtain ⟨y19, e20, hf⟩ := bn1_e hf
        refine w_nmi (sm1 e20) ?_
        refine lv_istore (lv' := [(9, .int y19), (8, .int y13), (7, .int (a3 - (a4 * x7))), (6, .int (a2 - (a4 * x5))), (5, .int x1), (0, .ref (o i)), (1, .int a1), (2, .int a2), (3, .int a3), (4, .int a4)]) hx hb dX0_agrees_88 hl (by decide) rfl (fun ls hl => ?_)
        refine lv_iload hx hb dX0_agrees_90 (lv_at hl 1 rfl) ?_
        refine lv_if_le (tgt := 114) hx hb dX0_agrees_92 (by decide) (fun c21 => ?_) (fun c21 => ?_)
        · have hf := if_t c21 hf
          refine lv_iconst (v := 0) hx hb dX0_agrees_114 (by decide) ?_
          have e0_ := sm1 hf
          exact hret _ _ _ _ _ hw e0_ (Or.inr (Or.inl rfl)) dX0_agrees_115
        · have hf := if_f c21 hf
          refine lv_iload hx hb dX0_agrees_95 (lv_at hl 0 rfl) ?_
          refine lv_iload hx hb dX0_agrees_97 (lv_at hl 1 rfl) ?_
          refine lv_icmp_gt (tgt := 114) hx hb dX0_agrees_99 (by decide) (fun c22 => ?_) (fun c22 => ?_)
          · have hf := if_t c22 hf
            refine lv_iconst (v := 0) hx hb dX0_agrees_114 (by decide) ?_
            have e0_ := sm1 hf
            exact hret _ _ _ _ _ hw e0_ (Or.inr (Or.inl rfl)) dX0_agrees_115
          · have hf := if_f c22 hf
            refine lv_iload hx hb dX0_agrees_102 (lv_at hl 0 rfl) ?_
            refine lv_ineg hx hb dX0_agrees_104 ?_
            refine lv_iload hx hb dX0_agrees_105 (lv_at hl 1 rfl) ?_
            refine lv_icmp_gt (tgt := 114) hx hb dX0_agrees_107 (by decide) (fun c23 => ?_) (fun c23 => ?_)
            · have hf := if_t c23 hf
              refine lv_iconst (v := 0) hx hb dX0_agrees_114 (by decide) ?_
              have e0_ := sm1 hf
              exact hret _ _ _ _ _ hw e0_ (Or.inr (Or.inl rfl)) dX0_agrees_115
            · have hf := if_f c23 hf
              refine lv_iconst (v := 1) hx hb dX0_agrees_110 (by decide) ?_
              refine lv_goto (tgt := 115) hx hb dX0_agrees_111 (by decide) ?_
              have e0_ := sm1 hf
              exact hret _ _ _ _ _ hw e0_ (Or.inr (Or.inr rfl)) dX0_agrees_115
      · have hf := if_f c4 hf
        refine lv_iconst (v := 1) hx hb dX0_agrees_20 (by decide) ?_
        have e0_ := sm1 hf
        exact hret _ _ _ _ _ hw e0_ (Or.inr (Or.inr rfl)) dX0_agrees_21
  rw [hH, hlc] at goal
  exact goal
