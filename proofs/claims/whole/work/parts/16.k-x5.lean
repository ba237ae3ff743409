abbrev rmX5_gatherBallot : Room := { frames := 3, cells := 0, slots := 0, locals := 73 }
theorem hd_X5_gatherBallot : yX5_gatherBallot.cls = RX5 ∧ yX5_gatherBallot.cls ≠ "java/lang/invoke/MethodHandle" ∧ yX5_gatherBallot.cls ≠ "java/lang/invoke/VarHandle" ∧ (parseMethodDescriptor yX5_gatherBallot.desc).map (fun d => d.parameters.length) = some 3 := by decide +kernel
set_option maxHeartbeats 4000000 in
set_option maxRecDepth 100000 in
theorem k_X5_gatherBallot (l : Launch) (D : va_G) (cA : ClassId) (tx ty : Nat) (o : Nat → Nat) (oT : St) (oB : St) (oC : St) (oG : St) (a1 : Int32) (a2 : Int32) (a3 : Int32) (oT' : St) (oC' : St) (hf : f_X5_gatherBallot oT oB oC a1 a2 a3 = some (oT', oC')) : Mv l yX5_gatherBallot wsX5_gatherBallot rmX5_gatherBallot D cA (z_X tx ty) [.ref (o 13), .int a1, .int a2, .int a3] (wX5 o cA oT oB oC oG) (wX5 o cA oT' oB oC' oG) := by
  refine Mv.of (cc := cX5_gatherBallot) (maxL := 5) (by decide) rfl (Nat.le_of_ble_eq_true rfl) ?_
  intro p e s m below meth c A Q hx hb hml hown hts hK hA hZ hret ls hl hw
  replace hown : s.vm.findClass RX5 = some m.cls := hown
  have hl : lv_has ls 5 [(0, .ref (o 13)), (1, .int a1), (2, .int a2), (3, .int a3)] := hl
  have hZo := z_X_ok tx ty
  have hi5 : ∀ w ∈ wsX50, w ∈ wsX5_gatherBallot := fun w h => List.mem_cons_of_mem _ (List.mem_append_left _ (List.mem_append_left _ (List.mem_append_right _ h)))
  have q0 := hts (.fieldLink RX5 25 "ArcRings$Table" "shape" "LArcRings$Circle;") (by decide +kernel)
  have q1 := hts (.fieldLink RX5 67 "ArcRings$Table" "offLine" "I") (by decide +kernel)
  have q2 := hts (.fieldLink RX5 40 "ArcRings$Table" "voting" "I") (by decide +kernel)
  have q3 := hts (.fieldLink RX5 9 "ArcRings$Table" "ballots" "[I") (by decide +kernel)
  unfold f_X5_gatherBallot at hf
  obtain ⟨H, hH⟩ : ∃ H, H = s.heap := ⟨_, rfl⟩
  obtain ⟨locs, hlc⟩ : ∃ locs : List Loc, locs = [] := ⟨_, rfl⟩
  have hw : Wd D A s.heap H locs (wX5 o cA oT oB oC oG) := by rw [hH, hlc]; exact hw
  have goal : W p l e rmX5_gatherBallot s m ([.ref (o 13), .int a1, .int a2, .int a3] : List Value).toArray below meth c H locs 0 0 Q (F0 m 0 ls []) := by
    clear hH hlc
    refine lv_aload_n hx hb dX5_gatherBallot_0 rfl (lv_at hl 0 rfl) ?_
    refine w_get hx hb hts hi5 hown hK hw 0 rfl rfl 1 (by decide) q0 rfl (v := .ref (o 11)) rfl dX5_gatherBallot_1 ?_
    refine lv_iload_n hx hb dX5_gatherBallot_4 rfl (lv_at hl 1 rfl) ?_
    refine lv_iload_n hx hb dX5_gatherBallot_5 rfl (lv_at hl 2 rfl) ?_
    refine lv_iload_n hx hb dX5_gatherBallot_6 rfl (lv_at hl 3 rfl) ?_
    obtain ⟨oC1, g2, hf⟩ := bn1_e hf
    have fr := fr_X5_X1_oC_oB o cA oT oB oC oG oC1 oB
    refine go_v (run_v (As := [.int a1, .int a2, .int a3]) (rest := []) ⟨hx, hb, hml, hown, hts⟩ (k_X1_lay l D cA tx ty o oC oB a1 a2 a3 oC1 g2 H.size) (cwV 3 hts gX5_gatherBallot_X1_lay rfl rfl rfl hd_X1_lay ⟨Nat.le_of_ble_eq_true rfl, Nat.le_of_ble_eq_true rfl⟩) fr hw hK hA hZo hZ (ci := 1) rfl rfl rfl rfl hl.1 rfl (Nat.le_of_ble_eq_true rfl) dX5_gatherBallot_7 ⟨Nat.zero_le _, Nat.zero_le _⟩) fr hw hA (fun H locs hw => ?_)
    refine lv_aload_n hx hb dX5_gatherBallot_10 rfl (lv_at hl 0 rfl) ?_
    refine w_get hx hb hts hi5 hown hK hw 0 rfl rfl 1 (by decide) q0 rfl (v := .ref (o 11)) rfl dX5_gatherBallot_11 ?_
    obtain ⟨x3, g4, hf⟩ := bn1_e hf
    have fr := fr_X5_X1_oC_oB o cA oT oB oC1 oG oC1 oB
    refine go_i (run_v (As := []) (rest := []) ⟨hx, hb, hml, hown, hts⟩ (k_X1_isLine l D cA tx ty o oC1 oB x3 g4 H.size) (cwV 0 hts gX5_gatherBallot_X1_isLine rfl rfl rfl hd_X1_isLine ⟨Nat.le_of_ble_eq_true rfl, Nat.le_of_ble_eq_true rfl⟩) fr hw hK hA hZo hZ (ci := 1) rfl rfl rfl rfl hl.1 rfl (Nat.le_of_ble_eq_true rfl) dX5_gatherBallot_14 ⟨Nat.zero_le _, Nat.zero_le _⟩) fr hw hA (fun H locs hw => ?_)
    refine lv_if_eq (tgt := 21) hx hb dX5_gatherBallot_17 (by decide) (fun c5 => ?_) (fun c5 => ?_)
    · have hf := if_t c5 hf
      refine lv_aload_n hx hb dX5_gatherBallot_21 rfl (lv_at hl 0 rfl) ?_
      refine lv_dup hx hb dX5_gatherBallot_22 rfl ?_
      refine w_get hx hb hts hi5 hown hK hw 0 rfl rfl 6 (by decide) q1 rfl (v := .int (oT.1 6)) rfl dX5_gatherBallot_23 ?_
      refine lv_iconst (v := 1) hx hb dX5_gatherBallot_26 (by decide) ?_
      refine lv_iadd hx hb dX5_gatherBallot_27 ?_
      refine w_put (ws' := (wX5 o cA ((sI oT 6 ((oT.1 6) + 1))) oB oC1 oG)) hx hb hts hi5 tyX5 tyX5_ok nmX5 hown hK hw 0 rfl rfl 6 (by decide) q1 rfl rfl rfl rfl (Nat.le_of_ble_eq_true rfl) rfl dX5_gatherBallot_28 (fun H locs hw => ?_)
      refine lv_aload_n hx hb dX5_gatherBallot_31 rfl (lv_at hl 0 rfl) ?_
      refine w_get hx hb hts hi5 hown hK hw 0 rfl rfl 1 (by decide) q0 rfl (v := .ref (o 11)) rfl dX5_gatherBallot_32 ?_
      obtain ⟨x6, g7, hf⟩ := bn1_e hf
      have fr := fr_X5_X1_oC_oB o cA ((sI oT 6 ((oT.1 6) + 1))) oB oC1 oG oC1 oB
      refine go_i (run_v (As := []) (rest := []) ⟨hx, hb, hml, hown, hts⟩ (k_X1_vote l D cA tx ty o oC1 oB x6 g7 H.size) (cwV 0 hts gX5_gatherBallot_X1_vote rfl rfl rfl hd_X1_vote ⟨Nat.le_of_ble_eq_true rfl, Nat.le_of_ble_eq_true rfl⟩) fr hw hK hA hZo hZ (ci := 1) rfl rfl rfl rfl hl.1 rfl (Nat.le_of_ble_eq_true rfl) dX5_gatherBallot_35 ⟨Nat.zero_le _, Nat.zero_le _⟩) fr hw hA (fun H locs hw => ?_)
      refine lv_istore (lv' := [(4, .int x6), (0, .ref (o 13)), (1, .int a1), (2, .int a2), (3, .int a3)]) hx hb dX5_gatherBallot_38 hl (by decide) rfl (fun ls hl => ?_)
      refine lv_iload hx hb dX5_gatherBallot_40 (lv_at hl 0 rfl) ?_
      refine lv_iconst (v := (-1)) hx hb dX5_gatherBallot_42 (by decide) ?_
      refine lv_icmp_eq (tgt := 77) hx hb dX5_gatherBallot_43 (by decide) (fun c8 => ?_) (fun c8 => ?_)
      · have hf := if_t c8 hf
        obtain ⟨e0_, e1_⟩ := sm2 hf
        exact hret _ _ _ _ (by rw [← e0_, ← e1_]; exact hw) dX5_gatherBallot_77
      · have hf := if_f c8 hf
        refine lv_aload_n hx hb dX5_gatherBallot_46 rfl (lv_at hl 1 rfl) ?_
        refine w_get hx hb hts hi5 hown hK hw 0 rfl rfl 5 (by decide) q2 rfl (v := .int (oT.1 5)) rfl dX5_gatherBallot_47 ?_
        refine lv_sipush (v := 364) hx hb dX5_gatherBallot_50 (by decide) ?_
        refine lv_icmp_ge (tgt := 77) hx hb dX5_gatherBallot_53 (by decide) (fun c9 => ?_) (fun c9 => ?_)
        · have hf := if_t c9 hf
          obtain ⟨e0_, e1_⟩ := sm2 hf
          exact hret _ _ _ _ (by rw [← e0_, ← e1_]; exact hw) dX5_gatherBallot_77
        · have hf := if_f c9 hf
          refine lv_aload_n hx hb dX5_gatherBallot_56 rfl (lv_at hl 1 rfl) ?_
          refine w_get hx hb hts hi5 hown hK hw 0 rfl rfl 7 (by decide) q3 rfl (v := .ref (o 14)) rfl dX5_gatherBallot_57 ?_
          refine lv_aload_n hx hb dX5_gatherBallot_60 rfl (lv_at hl 1 rfl) ?_
          refine w_get hx hb hts hi5 hown hK hw 0 rfl rfl 5 (by decide) q2 rfl (v := .int (oT.1 5)) rfl dX5_gatherBallot_61 ?_
          refine lv_iload hx hb dX5_gatherBallot_64 (lv_at hl 0 rfl) ?_
          obtain ⟨oT11, g10, hf⟩ := bn1_e hf
          refine w_aws hx hb hK hw 1 rfl g10 (fun z => (wX5 o cA z oB oC1 oG)) (fun _ => rfl) dX5_gatherBallot_66 (fun H locs hw => ?_)
          refine lv_aload_n hx hb dX5_gatherBallot_67 rfl (lv_at hl 1 rfl) ?_
          refine lv_dup hx hb dX5_gatherBallot_68 rfl ?_
          refine w_get hx hb hts hi5 hown hK hw 0 rfl rfl 5 (by decide) q2 rfl (v := .int (oT11.1 5)) rfl dX5_gatherBallot_69 ?_
          refine lv_iconst (v := 1) hx hb dX5_gatherBallot_72 (by decide) ?_
          refine lv_iadd hx hb dX5_gatherBallot_73 ?_
          refine w_put (ws' := (wX5 o cA ((sI oT11 5 ((oT11.1 5) + 1))) oB oC1 oG)) hx hb hts hi5 tyX5 tyX5_ok nmX5 hown hK hw 0 rfl rfl 5 (by decide) q2 rfl rfl rfl rfl (Nat.le_of_ble_eq_true rfl) rfl dX5_gatherBallot_74 (fun H locs hw => ?_)
          obtain ⟨e0_, e1_⟩ := sm2 hf
          exact hret _ _ _ _ (by rw [← e0_, ← e1_]; exact hw) dX5_gatherBallot_77
    · have hf := if_f c5 hf
      obtain ⟨e0_, e1_⟩ := sm2 hf
      exact hret _ _ _ _ (by rw [← e0_, ← e1_]; exact hw) dX5_gatherBallot_20
  rw [hH, hlc] at goal
  exact goal
abbrev rmX5_gatherBallots : Room := { frames := 4, cells := 0, slots := 0, locals := 97 }
theorem hd_X5_gatherBallots : yX5_gatherBallots.cls = RX5 ∧ yX5_gatherBallots.cls ≠ "java/lang/invoke/MethodHandle" ∧ yX5_gatherBallots.cls ≠ "java/lang/invoke/VarHandle" ∧ (parseMethodDescriptor yX5_gatherBallots.desc).map (fun d => d.parameters.length) = some 0 := by decide +kernel
set_option maxHeartbeats 4000000 in
set_option maxRecDepth 100000 in
theorem k_X5_gatherBallots (l : Launch) (D : va_G) (cA : ClassId) (tx ty : Nat) (o : Nat → Nat) (oT : St) (oB : St) (oC : St) (oG : St) (oT' : St) (oC' : St) (hf : f_X5_gatherBallots oT oB oC = some (oT', oC')) : Mv l yX5_gatherBallots wsX5_gatherBallots rmX5_gatherBallots D cA (z_X tx ty) [.ref (o 13)] (wX5 o cA oT oB oC oG) (wX5 o cA oT' oB oC' oG) := by
  refine Mv.of (cc := cX5_gatherBallots) (maxL := 4) (by decide) rfl (Nat.le_of_ble_eq_true rfl) ?_
  intro p e s m below meth c A Q hx hb hml hown hts hK hA hZ hret ls hl hw
  replace hown : s.vm.findClass RX5 = some m.cls := hown
  have hl : lv_has ls 4 [(0, .ref (o 13))] := hl
  have hZo := z_X_ok tx ty
  have hi0 : ∀ w ∈ wsX00, w ∈ wsX5_gatherBallots := fun w h => List.mem_cons_of_mem _ (List.mem_append_left _ (List.mem_append_right _ h))
  have hi5 : ∀ w ∈ wsX50, w ∈ wsX5_gatherBallots := fun w h => List.mem_cons_of_mem _ (List.mem_append_left _ (List.mem_append_left _ (List.mem_append_right _ h)))
  have q0 := hts (.fieldLink RX5 40 "ArcRings$Table" "voting" "I") (by decide +kernel)
  have q1 := hts (.fieldLink RX5 67 "ArcRings$Table" "offLine" "I") (by decide +kernel)
  have q2 := hts (.fieldLink RX5 21 "ArcRings$Table" "board" "LArcRings$Board;") (by decide +kernel)
  have q3 := hts (.fieldLink RX5 70 "ArcRings$Board" "dots" "I") (by decide +kernel)
  have h_L42 : ∀ (v1 : Int32) (v2 : Int32) (K : St → St → Option (St × St)), (∀ (z0 : St) (z1 : St), K z0 z1 = some (oT', oC') → ∀ (H : Heap) (locs : List Loc) (ls : Array Slot), Wd D A s.heap H locs (wX5 o cA z0 oB z1 oG) → lv_has ls 4 [(0, .ref (o 13)), (1, .int v1), (2, .int v2)] → W p l e rmX5_gatherBallots s m ([.ref (o 13)] : List Value).toArray below meth c H locs 0 0 Q (F0 m 66 ls [])) → ∀ (n : Nat) (v3 : Int32) (oT : St) (oC : St), f_X5_gatherBallots_L42 oB v1 v2 K n v3 oT oC = some (oT', oC') → ∀ (H : Heap) (locs : List Loc) (ls : Array Slot), Wd D A s.heap H locs (wX5 o cA oT oB oC oG) → lv_has ls 4 [(0, .ref (o 13)), (1, .int v1), (2, .int v2), (3, .int v3)] → W p l e rmX5_gatherBallots s m ([.ref (o 13)] : List Value).toArray below meth c H locs 0 0 Q (F0 m 42 ls []) := by
    intro v1 v2 K hK9 n
    induction n with
    | zero =>
      intro v3 oT oC hf
      have hf : none = some (oT', oC') := hf
      cases hf
    | succ n ih =>
      intro v3 oT oC hf H locs ls hw hl
      have hf := (f_X5_gatherBallots_L42_s oB v1 v2 K n v3 oT oC).symm.trans hf
      refine lv_iload_n hx hb dX5_gatherBallots_42 rfl (lv_at hl 3 rfl) ?_
      refine lv_aload_n hx hb dX5_gatherBallots_43 rfl (lv_at hl 0 rfl) ?_
      refine w_get hx hb hts hi5 hown hK hw 0 rfl rfl 0 (by decide) q2 rfl (v := .ref (o 7)) rfl dX5_gatherBallots_44 ?_
      refine w_get hx hb hts hi0 hown hK hw 4 rfl rfl 2 (by decide) q3 rfl (v := .int (oB.1 2)) rfl dX5_gatherBallots_47 ?_
      refine lv_icmp_ge (tgt := 66) hx hb dX5_gatherBallots_50 (by decide) (fun c3 => ?_) (fun c3 => ?_)
      · have hf := if_t c3 hf
        exact hK9 oT oC hf H locs ls hw (lv_sub hl [0, 1, 2] rfl)
      · have hf := if_f c3 hf
        refine lv_aload_n hx hb dX5_gatherBallots_53 rfl (lv_at hl 0 rfl) ?_
        refine lv_iload_n hx hb dX5_gatherBallots_54 rfl (lv_at hl 1 rfl) ?_
        refine lv_iload_n hx hb dX5_gatherBallots_55 rfl (lv_at hl 2 rfl) ?_
        refine lv_iload_n hx hb dX5_gatherBallots_56 rfl (lv_at hl 3 rfl) ?_
        obtain ⟨oT4, oC5, g6, hf⟩ := bn2_e hf
        have fr := fr_X5_X5_oT_oB_oC_oG o cA oT oB oC oG oT4 oB oC5 oG
        refine go_v (run_v (As := [.int v1, .int v2, .int v3]) (rest := []) ⟨hx, hb, hml, hown, hts⟩ (k_X5_gatherBallot l D cA tx ty o oT oB oC oG v1 v2 v3 oT4 oC5 g6 H.size) (cwV 3 hts gX5_gatherBallots_X5_gatherBallot rfl rfl rfl hd_X5_gatherBallot ⟨Nat.le_of_ble_eq_true rfl, Nat.le_of_ble_eq_true rfl⟩) fr hw hK hA hZo hZ (ci := 5) rfl rfl rfl rfl hl.1 rfl (Nat.le_of_ble_eq_true rfl) dX5_gatherBallots_57 ⟨Nat.zero_le _, Nat.zero_le _⟩) fr hw hA (fun H locs hw => ?_)
        refine lv_iinc (v := v3 + 1) (lv' := [(3, .int (v3 + 1)), (0, .ref (o 13)), (1, .int v1), (2, .int v2)]) hx hb dX5_gatherBallots_60 hl (k := 3) rfl (by rfl) (by decide) rfl (fun ls hl => ?_)
        refine lv_goto (tgt := 42) hx hb dX5_gatherBallots_63 (by decide) ?_
        exact ih (v3 + 1) oT4 oC5 hf H locs ls hw (lv_sub hl [1, 2, 3, 0] rfl)
  have h_L27 : ∀ (v1 : Int32) (K : St → St → Option (St × St)), (∀ (z0 : St) (z1 : St), K z0 z1 = some (oT', oC') → ∀ (H : Heap) (locs : List Loc) (ls : Array Slot), Wd D A s.heap H locs (wX5 o cA z0 oB z1 oG) → lv_has ls 4 [(0, .ref (o 13)), (1, .int v1)] → W p l e rmX5_gatherBallots s m ([.ref (o 13)] : List Value).toArray below meth c H locs 0 0 Q (F0 m 72 ls [])) → ∀ (n : Nat) (v2 : Int32) (oT : St) (oC : St), f_X5_gatherBallots_L27 oB v1 K n v2 oT oC = some (oT', oC') → ∀ (H : Heap) (locs : List Loc) (ls : Array Slot), Wd D A s.heap H locs (wX5 o cA oT oB oC oG) → lv_has ls 4 [(0, .ref (o 13)), (1, .int v1), (2, .int v2)] → W p l e rmX5_gatherBallots s m ([.ref (o 13)] : List Value).toArray below meth c H locs 0 0 Q (F0 m 27 ls []) := by
    intro v1 K hK9 n
    induction n with
    | zero =>
      intro v2 oT oC hf
      have hf : none = some (oT', oC') := hf
      cases hf
    | succ n ih =>
      intro v2 oT oC hf H locs ls hw hl
      have hf := (f_X5_gatherBallots_L27_s oB v1 K n v2 oT oC).symm.trans hf
      refine lv_iload_n hx hb dX5_gatherBallots_27 rfl (lv_at hl 2 rfl) ?_
      refine lv_aload_n hx hb dX5_gatherBallots_28 rfl (lv_at hl 0 rfl) ?_
      refine w_get hx hb hts hi5 hown hK hw 0 rfl rfl 0 (by decide) q2 rfl (v := .ref (o 7)) rfl dX5_gatherBallots_29 ?_
      refine w_get hx hb hts hi0 hown hK hw 4 rfl rfl 2 (by decide) q3 rfl (v := .int (oB.1 2)) rfl dX5_gatherBallots_32 ?_
      refine lv_icmp_ge (tgt := 72) hx hb dX5_gatherBallots_35 (by decide) (fun c2 => ?_) (fun c2 => ?_)
      · have hf := if_t c2 hf
        exact hK9 oT oC hf H locs ls hw (lv_sub hl [0, 1] rfl)
      · have hf := if_f c2 hf
        refine lv_iload_n hx hb dX5_gatherBallots_38 rfl (lv_at hl 2 rfl) ?_
        refine lv_iconst (v := 1) hx hb dX5_gatherBallots_39 (by decide) ?_
        refine lv_iadd hx hb dX5_gatherBallots_40 ?_
        refine lv_istore_n (lv' := [(3, .int (v2 + 1)), (0, .ref (o 13)), (1, .int v1), (2, .int v2)]) hx hb dX5_gatherBallots_41 rfl hl (by decide) rfl (fun ls hl => ?_)
        refine h_L42 v1 v2 _ ?_ _ (v2 + 1) oT oC hf H locs ls hw (lv_sub hl [1, 2, 3, 0] rfl)
        intro oT7 oC8 hf H locs ls hw hl
        refine lv_iinc (v := v2 + 1) (lv' := [(2, .int (v2 + 1)), (0, .ref (o 13)), (1, .int v1)]) hx hb dX5_gatherBallots_66 hl (k := 2) rfl (by rfl) (by decide) rfl (fun ls hl => ?_)
        refine lv_goto (tgt := 27) hx hb dX5_gatherBallots_69 (by decide) ?_
        exact ih (v2 + 1) oT7 oC8 hf H locs ls hw (lv_sub hl [1, 2, 0] rfl)
  have h_L12 : ∀ (n : Nat) (v1 : Int32) (oT : St) (oC : St), f_X5_gatherBallots_L12 oB n v1 oT oC = some (oT', oC') → ∀ (H : Heap) (locs : List Loc) (ls : Array Slot), Wd D A s.heap H locs (wX5 o cA oT oB oC oG) → lv_has ls 4 [(0, .ref (o 13)), (1, .int v1)] → W p l e rmX5_gatherBallots s m ([.ref (o 13)] : List Value).toArray below meth c H locs 0 0 Q (F0 m 12 ls []) := by
    intro n
    induction n with
    | zero =>
      intro v1 oT oC hf
      have hf : none = some (oT', oC') := hf
      cases hf
    | succ n ih =>
      intro v1 oT oC hf H locs ls hw hl
      have hf := (f_X5_gatherBallots_L12_s oB n v1 oT oC).symm.trans hf
      refine lv_iload_n hx hb dX5_gatherBallots_12 rfl (lv_at hl 1 rfl) ?_
      refine lv_aload_n hx hb dX5_gatherBallots_13 rfl (lv_at hl 0 rfl) ?_
      refine w_get hx hb hts hi5 hown hK hw 0 rfl rfl 0 (by decide) q2 rfl (v := .ref (o 7)) rfl dX5_gatherBallots_14 ?_
      refine w_get hx hb hts hi0 hown hK hw 4 rfl rfl 2 (by decide) q3 rfl (v := .int (oB.1 2)) rfl dX5_gatherBallots_17 ?_
      refine lv_icmp_ge (tgt := 78) hx hb dX5_gatherBallots_20 (by decide) (fun c1 => ?_) (fun c1 => ?_)
      · have hf := if_t c1 hf
        obtain ⟨e0_, e1_⟩ := sm2 hf
        exact hret _ _ _ _ (by rw [← e0_, ← e1_]; exact hw) dX5_gatherBallots_78
      · have hf := if_f c1 hf
        refine lv_iload_n hx hb dX5_gatherBallots_23 rfl (lv_at hl 1 rfl) ?_
        refine lv_iconst (v := 1) hx hb dX5_gatherBallots_24 (by decide) ?_
        refine lv_iadd hx hb dX5_gatherBallots_25 ?_
        refine lv_istore_n (lv' := [(2, .int (v1 + 1)), (0, .ref (o 13)), (1, .int v1)]) hx hb dX5_gatherBallots_26 rfl hl (by decide) rfl (fun ls hl => ?_)
        refine h_L27 v1 _ ?_ _ (v1 + 1) oT oC hf H locs ls hw (lv_sub hl [1, 2, 0] rfl)
        intro oT9 oC10 hf H locs ls hw hl
        refine lv_iinc (v := v1 + 1) (lv' := [(1, .int (v1 + 1)), (0, .ref (o 13))]) hx hb dX5_gatherBallots_72 hl (k := 1) rfl (by rfl) (by decide) rfl (fun ls hl => ?_)
        refine lv_goto (tgt := 12) hx hb dX5_gatherBallots_75 (by decide) ?_
        exact ih (v1 + 1) oT9 oC10 hf H locs ls hw (lv_sub hl [1, 0] rfl)
  unfold f_X5_gatherBallots at hf
  obtain ⟨H, hH⟩ : ∃ H, H = s.heap := ⟨_, rfl⟩
  obtain ⟨locs, hlc⟩ : ∃ locs : List Loc, locs = [] := ⟨_, rfl⟩
  have hw : Wd D A s.heap H locs (wX5 o cA oT oB oC oG) := by rw [hH, hlc]; exact hw
  have goal : W p l e rmX5_gatherBallots s m ([.ref (o 13)] : List Value).toArray below meth c H locs 0 0 Q (F0 m 0 ls []) := by
    clear hH hlc
    refine lv_aload_n hx hb dX5_gatherBallots_0 rfl (lv_at hl 0 rfl) ?_
    refine lv_iconst (v := 0) hx hb dX5_gatherBallots_1 (by decide) ?_
    refine w_put (ws' := (wX5 o cA ((sI oT 5 0)) oB oC oG)) hx hb hts hi5 tyX5 tyX5_ok nmX5 hown hK hw 0 rfl rfl 5 (by decide) q0 rfl rfl rfl rfl (Nat.le_of_ble_eq_true rfl) rfl dX5_gatherBallots_2 (fun H locs hw => ?_)
    refine lv_aload_n hx hb dX5_gatherBallots_5 rfl (lv_at hl 0 rfl) ?_
    refine lv_iconst (v := 0) hx hb dX5_gatherBallots_6 (by decide) ?_
    refine w_put (ws' := (wX5 o cA ((sI (sI oT 5 0) 6 0)) oB oC oG)) hx hb hts hi5 tyX5 tyX5_ok nmX5 hown hK hw 0 rfl rfl 6 (by decide) q1 rfl rfl rfl rfl (Nat.le_of_ble_eq_true rfl) rfl dX5_gatherBallots_7 (fun H locs hw => ?_)
    refine lv_iconst (v := 0) hx hb dX5_gatherBallots_10 (by decide) ?_
    refine lv_istore_n (lv' := [(1, .int 0), (0, .ref (o 13))]) hx hb dX5_gatherBallots_11 rfl hl (by decide) rfl (fun ls hl => ?_)
    exact h_L12  _ 0 ((sI (sI oT 5 0) 6 0)) oC hf H locs ls hw (lv_sub hl [1, 0] rfl)
  rw [hH, hlc] at goal
  exact goal
abbrev rmX5_countBallots : Room := { frames := 0, cells := 0, slots := 0, locals := 0 }
theorem hd_X5_countBallots : yX5_countBallots.cls = RX5 ∧ yX5_countBallots.cls ≠ "java/lang/invoke/MethodHandle" ∧ yX5_countBallots.cls ≠ "java/lang/invoke/VarHandle" ∧ (parseMethodDescriptor yX5_countBallots.desc).map (fun d => d.parameters.length) = some 0 := by decide +kernel
set_option maxHeartbeats 4000000 in
set_option maxRecDepth 100000 in
theorem k_X5_countBallots (l : Launch) (D : va_G) (cA : ClassId) (tx ty : Nat) (o : Nat → Nat) (oT : St) (oB : St) (oC : St) (oG : St) (oT' : St) (hf : f_X5_countBallots oT = some (oT')) : Mv l yX5_countBallots wsX5_countBallots rmX5_countBallots D cA (z_X tx ty) [.ref (o 13)] (wX5 o cA oT oB oC oG) (wX5 o cA oT' oB oC oG) := by
  refine Mv.of (cc := cX5_countBallots) (maxL := 3) (by decide) rfl (Nat.le_of_ble_eq_true rfl) ?_
  intro p e s m below meth c A Q hx hb hml hown hts hK hA hZ hret ls hl hw
  replace hown : s.vm.findClass RX5 = some m.cls := hown
  have hl : lv_has ls 3 [(0, .ref (o 13))] := hl
  have hZo := z_X_ok tx ty
  have hi5 : ∀ w ∈ wsX50, w ∈ wsX5_countBallots := fun w h => List.mem_cons_of_mem _ (List.mem_append_right _ h)
  have q0 := hts (.fieldLink RX5 51 "ArcRings$Table" "size" "I") (by decide +kernel)
  have q1 := hts (.fieldLink RX5 40 "ArcRings$Table" "voting" "I") (by decide +kernel)
  have q2 := hts (.fieldLink RX5 15 "ArcRings$Table" "order" "[I") (by decide +kernel)
  have q3 := hts (.fieldLink RX5 9 "ArcRings$Table" "ballots" "[I") (by decide +kernel)
  have h_L9 : ∀ (n : Nat) (v1 : Int32) (v2 : Int32) (oT : St), f_X5_countBallots_L9  n v1 v2 oT = some (oT') → ∀ (H : Heap) (locs : List Loc) (ls : Array Slot), Wd D A s.heap H locs (wX5 o cA oT oB oC oG) → lv_has ls 3 [(0, .ref (o 13)), (1, .int v1), (2, .int v2)] → W p l e rmX5_countBallots s m ([.ref (o 13)] : List Value).toArray below meth c H locs 0 0 Q (F0 m 9 ls []) := by
    intro n
    induction n with
    | zero =>
      intro v1 v2 oT hf
      have hf : none = some (oT') := hf
      cases hf
    | succ n ih =>
      intro v1 v2 oT hf H locs ls hw hl
      have hf := (f_X5_countBallots_L9_s  n v1 v2 oT).symm.trans hf
      refine lv_iload_n hx hb dX5_countBallots_9 rfl (lv_at hl 2 rfl) ?_
      refine lv_aload_n hx hb dX5_countBallots_10 rfl (lv_at hl 0 rfl) ?_
      refine w_get hx hb hts hi5 hown hK hw 0 rfl rfl 5 (by decide) q1 rfl (v := .int (oT.1 5)) rfl dX5_countBallots_11 ?_
      refine lv_icmp_ge (tgt := 92) hx hb dX5_countBallots_14 (by decide) (fun c1 => ?_) (fun c1 => ?_)
      · have hf := if_t c1 hf
        have e0_ := sm1 hf
        exact hret _ _ _ _ (by rw [← e0_]; exact hw) dX5_countBallots_92
      · have hf := if_f c1 hf
        refine lv_iload_n hx hb dX5_countBallots_17 rfl (lv_at hl 2 rfl) ?_
        refine lv_iconst (v := 1) hx hb dX5_countBallots_18 (by decide) ?_
        refine lv_iadd hx hb dX5_countBallots_19 ?_
        refine lv_aload_n hx hb dX5_countBallots_20 rfl (lv_at hl 0 rfl) ?_
        refine w_get hx hb hts hi5 hown hK hw 0 rfl rfl 5 (by decide) q1 rfl (v := .int (oT.1 5)) rfl dX5_countBallots_21 ?_
        refine lv_icmp_eq (tgt := 44) hx hb dX5_countBallots_24 (by decide) (fun c2 => ?_) (fun c2 => ?_)
        · have hf := if_t c2 hf
          refine lv_aload_n hx hb dX5_countBallots_44 rfl (lv_at hl 0 rfl) ?_
          refine w_get hx hb hts hi5 hown hK hw 0 rfl rfl 8 (by decide) q2 rfl (v := .ref (o 15)) rfl dX5_countBallots_45 ?_
          refine lv_aload_n hx hb dX5_countBallots_48 rfl (lv_at hl 0 rfl) ?_
          refine w_get hx hb hts hi5 hown hK hw 0 rfl rfl 4 (by decide) q0 rfl (v := .int (oT.1 4)) rfl dX5_countBallots_49 ?_
          refine lv_sipush (v := 364) hx hb dX5_countBallots_52 (by decide) ?_
          refine lv_iload_n hx hb dX5_countBallots_55 rfl (lv_at hl 2 rfl) ?_
          refine lv_iconst (v := 1) hx hb dX5_countBallots_56 (by decide) ?_
          refine lv_iadd hx hb dX5_countBallots_57 ?_
          refine lv_iload_n hx hb dX5_countBallots_58 rfl (lv_at hl 1 rfl) ?_
          refine lv_isub hx hb dX5_countBallots_59 ?_
          refine lv_isub hx hb dX5_countBallots_60 ?_
          refine lv_bipush (v := 15) hx hb dX5_countBallots_61 (by decide) ?_
          refine lv_ishl hx hb dX5_countBallots_63 ?_
          refine lv_aload_n hx hb dX5_countBallots_64 rfl (lv_at hl 0 rfl) ?_
          refine w_get hx hb hts hi5 hown hK hw 0 rfl rfl 7 (by decide) q3 rfl (v := .ref (o 14)) rfl dX5_countBallots_65 ?_
          refine lv_iload_n hx hb dX5_countBallots_68 rfl (lv_at hl 2 rfl) ?_
          obtain ⟨x3, g4, hf⟩ := bn1_e hf
          refine w_ald hx hb hK hw 1 rfl g4 dX5_countBallots_69 ?_
          refine lv_ior hx hb dX5_countBallots_70 ?_
          obtain ⟨oT6, g5, hf⟩ := bn1_e hf
          refine w_aws hx hb hK hw 2 rfl g5 (fun z => (wX5 o cA z oB oC oG)) (fun _ => rfl) dX5_countBallots_71 (fun H locs hw => ?_)
          refine lv_aload_n hx hb dX5_countBallots_72 rfl (lv_at hl 0 rfl) ?_
          refine lv_dup hx hb dX5_countBallots_73 rfl ?_
          refine w_get hx hb hts hi5 hown hK hw 0 rfl rfl 4 (by decide) q0 rfl (v := .int (oT6.1 4)) rfl dX5_countBallots_74 ?_
          refine lv_iconst (v := 1) hx hb dX5_countBallots_77 (by decide) ?_
          refine lv_iadd hx hb dX5_countBallots_78 ?_
          refine w_put (ws' := (wX5 o cA ((sI oT6 4 ((oT6.1 4) + 1))) oB oC oG)) hx hb hts hi5 tyX5 tyX5_ok nmX5 hown hK hw 0 rfl rfl 4 (by decide) q0 rfl rfl rfl rfl (Nat.le_of_ble_eq_true rfl) rfl dX5_countBallots_79 (fun H locs hw => ?_)
          refine lv_iload_n hx hb dX5_countBallots_82 rfl (lv_at hl 2 rfl) ?_
          refine lv_iconst (v := 1) hx hb dX5_countBallots_83 (by decide) ?_
          refine lv_iadd hx hb dX5_countBallots_84 ?_
          refine lv_istore_n (lv' := [(1, .int (v2 + 1)), (0, .ref (o 13)), (2, .int v2)]) hx hb dX5_countBallots_85 rfl hl (by decide) rfl (fun ls hl => ?_)
          refine lv_iinc (v := v2 + 1) (lv' := [(2, .int (v2 + 1)), (1, .int (v2 + 1)), (0, .ref (o 13))]) hx hb dX5_countBallots_86 hl (k := 2) rfl (by rfl) (by decide) rfl (fun ls hl => ?_)
          refine lv_goto (tgt := 9) hx hb dX5_countBallots_89 (by decide) ?_
          exact ih (v2 + 1) (v2 + 1) ((sI oT6 4 ((oT6.1 4) + 1))) hf H locs ls hw (lv_sub hl [2, 1, 0] rfl)
        · have hf := if_f c2 hf
          refine lv_aload_n hx hb dX5_countBallots_27 rfl (lv_at hl 0 rfl) ?_
          refine w_get hx hb hts hi5 hown hK hw 0 rfl rfl 7 (by decide) q3 rfl (v := .ref (o 14)) rfl dX5_countBallots_28 ?_
          refine lv_iload_n hx hb dX5_countBallots_31 rfl (lv_at hl 2 rfl) ?_
          refine lv_iconst (v := 1) hx hb dX5_countBallots_32 (by decide) ?_
          refine lv_iadd hx hb dX5_countBallots_33 ?_
          obtain ⟨x7, g8, hf⟩ := bn1_e hf
          refine w_ald hx hb hK hw 1 rfl g8 dX5_countBallots_34 ?_
          refine lv_aload_n hx hb dX5_countBallots_35 rfl (lv_at hl 0 rfl) ?_
          refine w_get hx hb hts hi5 hown hK hw 0 rfl rfl 7 (by decide) q3 rfl (v := .ref (o 14)) rfl dX5_countBallots_36 ?_
          refine lv_iload_n hx hb dX5_countBallots_39 rfl (lv_at hl 2 rfl) ?_
          obtain ⟨x9, g10, hf⟩ := bn1_e hf
          refine w_ald hx hb hK hw 1 rfl g10 dX5_countBallots_40 ?_
          refine lv_icmp_eq (tgt := 86) hx hb dX5_countBallots_41 (by decide) (fun c11 => ?_) (fun c11 => ?_)
          · have hf := if_t c11 hf
            refine lv_iinc (v := v2 + 1) (lv' := [(2, .int (v2 + 1)), (0, .ref (o 13)), (1, .int v1)]) hx hb dX5_countBallots_86 hl (k := 2) rfl (by rfl) (by decide) rfl (fun ls hl => ?_)
            refine lv_goto (tgt := 9) hx hb dX5_countBallots_89 (by decide) ?_
            exact ih v1 (v2 + 1) oT hf H locs ls hw (lv_sub hl [1, 2, 0] rfl)
          · have hf := if_f c11 hf
            refine lv_aload_n hx hb dX5_countBallots_44 rfl (lv_at hl 0 rfl) ?_
            refine w_get hx hb hts hi5 hown hK hw 0 rfl rfl 8 (by decide) q2 rfl (v := .ref (o 15)) rfl dX5_countBallots_45 ?_
            refine lv_aload_n hx hb dX5_countBallots_48 rfl (lv_at hl 0 rfl) ?_
            refine w_get hx hb hts hi5 hown hK hw 0 rfl rfl 4 (by decide) q0 rfl (v := .int (oT.1 4)) rfl dX5_countBallots_49 ?_
            refine lv_sipush (v := 364) hx hb dX5_countBallots_52 (by decide) ?_
            refine lv_iload_n hx hb dX5_countBallots_55 rfl (lv_at hl 2 rfl) ?_
            refine lv_iconst (v := 1) hx hb dX5_countBallots_56 (by decide) ?_
            refine lv_iadd hx hb dX5_countBallots_57 ?_
            refine lv_iload_n hx hb dX5_countBallots_58 rfl (lv_at hl 1 rfl) ?_
            refine lv_isub hx hb dX5_countBallots_59 ?_
            refine lv_isub hx hb dX5_countBallots_60 ?_
            refine lv_bipush (v := 15) hx hb dX5_countBallots_61 (by decide) ?_
            refine lv_ishl hx hb dX5_countBallots_63 ?_
            refine lv_aload_n hx hb dX5_countBallots_64 rfl (lv_at hl 0 rfl) ?_
            refine w_get hx hb hts hi5 hown hK hw 0 rfl rfl 7 (by decide) q3 rfl (v := .ref (o 14)) rfl dX5_countBallots_65 ?_
            refine lv_iload_n hx hb dX5_countBallots_68 rfl (lv_at hl 2 rfl) ?_
            obtain ⟨x12, g13, hf⟩ := bn1_e hf
            refine w_ald hx hb hK hw 1 rfl g13 dX5_countBallots_69 ?_
            refine lv_ior hx hb dX5_countBallots_70 ?_
            obtain ⟨oT15, g14, hf⟩ := bn1_e hf
            refine w_aws hx hb hK hw 2 rfl g14 (fun z => (wX5 o cA z oB oC oG)) (fun _ => rfl) dX5_countBallots_71 (fun H locs hw => ?_)
            refine lv_aload_n hx hb dX5_countBallots_72 rfl (lv_at hl 0 rfl) ?_
            refine lv_dup hx hb dX5_countBallots_73 rfl ?_
            refine w_get hx hb hts hi5 hown hK hw 0 rfl rfl 4 (by decide) q0 rfl (v := .int (oT15.1 4)) rfl dX5_countBallots_74 ?_
            refine lv_iconst (v := 1) hx hb dX5_countBallots_77 (by decide) ?_
            refine lv_iadd hx hb dX5_countBallots_78 ?_
            refine w_put (ws' := (wX5 o cA ((sI oT15 4 ((oT15.1 4) + 1))) oB oC oG)) hx hb hts hi5 tyX5 tyX5_ok nmX5 hown hK hw 0 rfl rfl 4 (by decide) q0 rfl rfl rfl rfl (Nat.le_of_ble_eq_true rfl) rfl dX5_countBallots_79 (fun H locs hw => ?_)
            refine lv_iload_n hx hb dX5_countBallots_82 rfl (lv_at hl 2 rfl) ?_
            refine lv_iconst (v := 1) hx hb dX5_countBallots_83 (by decide) ?_
            refine lv_iadd hx hb dX5_countBallots_84 ?_
            refine lv_istore_n (lv' := [(1, .int (v2 + 1)), (0, .ref (o 13)), (2, .int v2)]) hx hb dX5_countBallots_85 rfl hl (by decide) rfl (fun ls hl => ?_)
            refine lv_iinc (v := v2 + 1) (lv' := [(2, .int (v2 + 1)), (1, .int (v2 + 1)), (0, .ref (o 13))]) hx hb dX5_countBallots_86 hl (k := 2) rfl (by rfl) (by decide) rfl (fun ls hl => ?_)
            refine lv_goto (tgt := 9) hx hb dX5_countBallots_89 (by decide) ?_
            exact ih (v2 + 1) (v2 + 1) ((sI oT15 4 ((oT15.1 4) + 1))) hf H locs ls hw (lv_sub hl [2, 1, 0] rfl)
  unfold f_X5_countBallots at hf
  obtain ⟨H, hH⟩ : ∃ H, H = s.heap := ⟨_, rfl⟩
  obtain ⟨locs, hlc⟩ : ∃ locs : List Loc, locs = [] := ⟨_, rfl⟩
  have hw : Wd D A s.heap H locs (wX5 o cA oT oB oC oG) := by rw [hH, hlc]; exact hw
  have goal : W p l e rmX5_countBallots s m ([.ref (o 13)] : List Value).toArray below meth c H locs 0 0 Q (F0 m 0 ls []) := by
    clear hH hlc
    refine lv_aload_n hx hb dX5_countBallots_0 rfl (lv_at hl 0 rfl) ?_
    refine lv_iconst (v := 0) hx hb dX5_countBallots_1 (by decide) ?_
    refine w_put (ws' := (wX5 o cA ((sI oT 4 0)) oB oC oG)) hx hb hts hi5 tyX5 tyX5_ok nmX5 hown hK hw 0 rfl rfl 4 (by decide) q0 rfl rfl rfl rfl (Nat.le_of_ble_eq_true rfl) rfl dX5_countBallots_2 (fun H locs hw => ?_)
    refine lv_iconst (v := 0) hx hb dX5_countBallots_5 (by decide) ?_
    refine lv_istore_n (lv' := [(1, .int 0), (0, .ref (o 13))]) hx hb dX5_countBallots_6 rfl hl (by decide) rfl (fun ls hl => ?_)
    refine lv_iconst (v := 0) hx hb dX5_countBallots_7 (by decide) ?_
    refine lv_istore_n (lv' := [(2, .int 0), (1, .int 0), (0, .ref (o 13))]) hx hb dX5_countBallots_8 rfl hl (by decide) rfl (fun ls hl => ?_)
    exact h_L9  _ 0 0 ((sI oT 4 0)) hf H locs ls hw (lv_sub hl [2, 1, 0] rfl)
  rw [hH, hlc] at goal
  exact goal
abbrev rmX5_keyAt : Room := { frames := 0, cells := 0, slots := 0, locals := 0 }
theorem hd_X5_keyAt : yX5_keyAt.cls = RX5 ∧ yX5_keyAt.cls ≠ "java/lang/invoke/MethodHandle" ∧ yX5_keyAt.cls ≠ "java/lang/invoke/VarHandle" ∧ (parseMethodDescriptor yX5_keyAt.desc).map (fun d => d.parameters.length) = some 1 := by decide +kernel
set_option maxHeartbeats 4000000 in
set_option maxRecDepth 100000 in
theorem k_X5_keyAt (l : Launch) (D : va_G) (cA : ClassId) (tx ty : Nat) (o : Nat → Nat) (oT : St) (oB : St) (oC : St) (oG : St) (a1 : Int32) (r : Int32) (hf : f_X5_keyAt oT a1 = some (r)) : Mi l yX5_keyAt wsX5_keyAt rmX5_keyAt D cA (z_X tx ty) [.ref (o 13), .int a1] (wX5 o cA oT oB oC oG) r (wX5 o cA oT oB oC oG) := by
  refine Mi.of (cc := cX5_keyAt) (maxL := 2) (ret := (some .int)) (plainFor_of_name (by decide)) rfl (Nat.le_of_ble_eq_true rfl) (Or.inl rfl) ?_
  intro p e s m below meth c A Q hx hb hml hown hts hK hA hZ hret ls hl hw
  replace hown : s.vm.findClass RX5 = some m.cls := hown
  have hl : lv_has ls 2 [(0, .ref (o 13)), (1, .int a1)] := hl
  have hZo := z_X_ok tx ty
  have hi5 : ∀ w ∈ wsX50, w ∈ wsX5_keyAt := fun w h => List.mem_cons_of_mem _ (List.mem_append_right _ h)
  have q0 := hts (.fieldLink RX5 15 "ArcRings$Table" "order" "[I") (by decide +kernel)
  unfold f_X5_keyAt at hf
  obtain ⟨H, hH⟩ : ∃ H, H = s.heap := ⟨_, rfl⟩
  obtain ⟨locs, hlc⟩ : ∃ locs : List Loc, locs = [] := ⟨_, rfl⟩
  have hw : Wd D A s.heap H locs (wX5 o cA oT oB oC oG) := by rw [hH, hlc]; exact hw
  have goal : W p l e rmX5_keyAt s m ([.ref (o 13), .int a1] : List Value).toArray below meth c H locs 0 0 Q (F0 m 0 ls []) := by
    clear hH hlc
    refine lv_aload_n hx hb dX5_keyAt_0 rfl (lv_at hl 0 rfl) ?_
    refine w_get hx hb hts hi5 hown hK hw 0 rfl rfl 8 (by decide) q0 rfl (v := .ref (o 15)) rfl dX5_keyAt_1 ?_
    refine lv_iload_n hx hb dX5_keyAt_4 rfl (lv_at hl 1 rfl) ?_
    obtain ⟨x1, g2, hf⟩ := bn1_e hf
    refine w_ald hx hb hK hw 2 rfl g2 dX5_keyAt_5 ?_
    refine lv_sipush (v := 32767) hx hb dX5_keyAt_6 (by decide) ?_
    refine lv_iand hx hb dX5_keyAt_9 ?_
    have e0_ := sm1 hf
    exact hret _ _ _ _ _ hw e0_ (Or.inl rfl) dX5_keyAt_10
  rw [hH, hlc] at goal
  exact goal
abbrev rmX5_refresh : Room := { frames := 5, cells := 0, slots := 0, locals := 120 }
theorem hd_X5_refresh : yX5_refresh.cls = RX5 ∧ yX5_refresh.cls ≠ "java/lang/invoke/MethodHandle" ∧ yX5_refresh.cls ≠ "java/lang/invoke/VarHandle" ∧ (parseMethodDescriptor yX5_refresh.desc).map (fun d => d.parameters.length) = some 0 := by decide +kernel
set_option maxHeartbeats 4000000 in
set_option maxRecDepth 100000 in
theorem k_X5_refresh (l : Launch) (D : va_G) (cA : ClassId) (tx ty : Nat) (o : Nat → Nat) (oT : St) (oB : St) (oC : St) (oG : St) (oT' : St) (oC' : St) (oG' : St) (hf : f_X5_refresh oT oB oC oG = some (oT', oC', oG')) : Mv l yX5_refresh wsX5_refresh rmX5_refresh D cA (z_X tx ty) [.ref (o 13)] (wX5 o cA oT oB oC oG) (wX5 o cA oT' oB oC' oG') := by
  refine Mv.of (cc := cX5_refresh) (maxL := 2) (by decide) rfl (Nat.le_of_ble_eq_true rfl) ?_
  intro p e s m below meth c A Q hx hb hml hown hts hK hA hZ hret ls hl hw
  replace hown : s.vm.findClass RX5 = some m.cls := hown
  have hl : lv_has ls 2 [(0, .ref (o 13))] := hl
  have hZo := z_X_ok tx ty
  have hi5 : ∀ w ∈ wsX50, w ∈ wsX5_refresh := fun w h => List.mem_cons_of_mem _ (List.mem_append_left _ (List.mem_append_left _ (List.mem_append_left _ (List.mem_append_right _ h))))
  have q0 := hts (.fieldLink RX5 33 "ArcRings$Table" "fresh" "Z") (by decide +kernel)
  have q1 := hts (.fieldLink RX5 9 "ArcRings$Table" "ballots" "[I") (by decide +kernel)
  have q2 := hts (.fieldLink RX5 40 "ArcRings$Table" "voting" "I") (by decide +kernel)
  have q3 := hts (.fieldLink RX5 15 "ArcRings$Table" "order" "[I") (by decide +kernel)
  have q4 := hts (.fieldLink RX5 51 "ArcRings$Table" "size" "I") (by decide +kernel)
  have q5 := hts (.fieldLink RX5 29 "ArcRings$Table" "sight" "LArcRings$Sight;") (by decide +kernel)
  have q6 := hts (.fieldLink RX5 18 "ArcRings$Table" "supporters" "[I") (by decide +kernel)
  have h_L40 : ∀ (oC : St), ∀ (n : Nat) (v1 : Int32) (oT : St) (oG : St), f_X5_refresh_L40 oB oC n v1 oT oG = some (oT', oC', oG') → ∀ (H : Heap) (locs : List Loc) (ls : Array Slot), Wd D A s.heap H locs (wX5 o cA oT oB oC oG) → lv_has ls 2 [(0, .ref (o 13)), (1, .int v1)] → W p l e rmX5_refresh s m ([.ref (o 13)] : List Value).toArray below meth c H locs 0 0 Q (F0 m 40 ls []) := by
    intro oC n
    induction n with
    | zero =>
      intro v1 oT oG hf
      have hf : none = some (oT', oC', oG') := hf
      cases hf
    | succ n ih =>
      intro v1 oT oG hf H locs ls hw hl
      have hf := (f_X5_refresh_L40_s oB oC n v1 oT oG).symm.trans hf
      refine lv_iload_n hx hb dX5_refresh_40 rfl (lv_at hl 1 rfl) ?_
      refine lv_aload_n hx hb dX5_refresh_41 rfl (lv_at hl 0 rfl) ?_
      refine w_get hx hb hts hi5 hown hK hw 0 rfl rfl 4 (by decide) q4 rfl (v := .int (oT.1 4)) rfl dX5_refresh_42 ?_
      refine lv_icmp_ge (tgt := 79) hx hb dX5_refresh_45 (by decide) (fun c11 => ?_) (fun c11 => ?_)
      · have hf := if_t c11 hf
        refine lv_aload_n hx hb dX5_refresh_79 rfl (lv_at hl 0 rfl) ?_
        refine lv_iconst (v := 1) hx hb dX5_refresh_80 (by decide) ?_
        refine w_put (ws' := (wX5 o cA ((sI oT 3 1)) oB oC oG)) hx hb hts hi5 tyX5 tyX5_ok nmX5 hown hK hw 0 rfl rfl 3 (by decide) q0 rfl rfl (by decide) (by decide) (Nat.le_of_ble_eq_true rfl) rfl dX5_refresh_81 (fun H locs hw => ?_)
        obtain ⟨e0_, e1_, e2_⟩ := sm3 hf
        exact hret _ _ _ _ (by rw [← e0_, ← e1_, ← e2_]; exact hw) dX5_refresh_84
      · have hf := if_f c11 hf
        refine lv_aload_n hx hb dX5_refresh_48 rfl (lv_at hl 0 rfl) ?_
        refine w_get hx hb hts hi5 hown hK hw 0 rfl rfl 2 (by decide) q5 rfl (v := .ref (o 12)) rfl dX5_refresh_49 ?_
        refine lv_aload_n hx hb dX5_refresh_52 rfl (lv_at hl 0 rfl) ?_
        refine lv_iload_n hx hb dX5_refresh_53 rfl (lv_at hl 1 rfl) ?_
        obtain ⟨x12, g13, hf⟩ := bn1_e hf
        have fr := fr_X5_X5_oT_oB_oC_oG o cA oT oB oC oG oT oB oC oG
        refine go_i (run_v (As := [.int v1]) (rest := [.ref (o 12)]) ⟨hx, hb, hml, hown, hts⟩ (k_X5_keyAt l D cA tx ty o oT oB oC oG v1 x12 g13 H.size) (cwV 1 hts gX5_refresh_X5_keyAt rfl rfl rfl hd_X5_keyAt ⟨Nat.le_of_ble_eq_true rfl, Nat.le_of_ble_eq_true rfl⟩) fr hw hK hA hZo hZ (ci := 5) rfl rfl rfl rfl hl.1 rfl (Nat.le_of_ble_eq_true rfl) dX5_refresh_54 ⟨Nat.zero_le _, Nat.zero_le _⟩) fr hw hA (fun H locs hw => ?_)
        obtain ⟨oG14, g15, hf⟩ := bn1_e hf
        have fr := fr_X5_X4_oG_oB o cA oT oB oC oG oG14 oB
        refine go_v (run_v (As := [.int x12]) (rest := []) ⟨hx, hb, hml, hown, hts⟩ (k_X4_from l D cA tx ty o oG oB x12 oG14 g15 H.size) (cwV 1 hts gX5_refresh_X4_from rfl rfl rfl hd_X4_from ⟨Nat.le_of_ble_eq_true rfl, Nat.le_of_ble_eq_true rfl⟩) fr hw hK hA hZo hZ (ci := 4) rfl rfl rfl rfl hl.1 rfl (Nat.le_of_ble_eq_true rfl) dX5_refresh_57 ⟨Nat.zero_le _, Nat.zero_le _⟩) fr hw hA (fun H locs hw => ?_)
        refine lv_aload_n hx hb dX5_refresh_60 rfl (lv_at hl 0 rfl) ?_
        refine w_get hx hb hts hi5 hown hK hw 0 rfl rfl 9 (by decide) q6 rfl (v := .ref (o 16)) rfl dX5_refresh_61 ?_
        refine lv_iload_n hx hb dX5_refresh_64 rfl (lv_at hl 1 rfl) ?_
        refine lv_aload_n hx hb dX5_refresh_65 rfl (lv_at hl 0 rfl) ?_
        refine w_get hx hb hts hi5 hown hK hw 0 rfl rfl 2 (by decide) q5 rfl (v := .ref (o 12)) rfl dX5_refresh_66 ?_
        obtain ⟨x16, g17, hf⟩ := bn1_e hf
        have fr := fr_X5_X4_oG_oB o cA oT oB oC oG14 oG14 oB
        refine go_i (run_v (As := []) (rest := [.int v1, .ref (o 16)]) ⟨hx, hb, hml, hown, hts⟩ (k_X4_supporters l D cA tx ty o oG14 oB x16 g17 H.size) (cwV 0 hts gX5_refresh_X4_supporters rfl rfl rfl hd_X4_supporters ⟨Nat.le_of_ble_eq_true rfl, Nat.le_of_ble_eq_true rfl⟩) fr hw hK hA hZo hZ (ci := 4) rfl rfl rfl rfl hl.1 rfl (Nat.le_of_ble_eq_true rfl) dX5_refresh_69 ⟨Nat.zero_le _, Nat.zero_le _⟩) fr hw hA (fun H locs hw => ?_)
        obtain ⟨oT19, g18, hf⟩ := bn1_e hf
        refine w_aws hx hb hK hw 3 rfl g18 (fun z => (wX5 o cA z oB oC oG14)) (fun _ => rfl) dX5_refresh_72 (fun H locs hw => ?_)
        refine lv_iinc (v := v1 + 1) (lv' := [(1, .int (v1 + 1)), (0, .ref (o 13))]) hx hb dX5_refresh_73 hl (k := 1) rfl (by rfl) (by decide) rfl (fun ls hl => ?_)
        refine lv_goto (tgt := 40) hx hb dX5_refresh_76 (by decide) ?_
        exact ih (v1 + 1) oT19 oG14 hf H locs ls hw (lv_sub hl [1, 0] rfl)
  unfold f_X5_refresh at hf
  obtain ⟨H, hH⟩ : ∃ H, H = s.heap := ⟨_, rfl⟩
  obtain ⟨locs, hlc⟩ : ∃ locs : List Loc, locs = [] := ⟨_, rfl⟩
  have hw : Wd D A s.heap H locs (wX5 o cA oT oB oC oG) := by rw [hH, hlc]; exact hw
  have goal : W p l e rmX5_refresh s m ([.ref (o 13)] : List Value).toArray below meth c H locs 0 0 Q (F0 m 0 ls []) := by
    clear hH hlc
    refine lv_aload_n hx hb dX5_refresh_0 rfl (lv_at hl 0 rfl) ?_
    refine w_get hx hb hts hi5 hown hK hw 0 rfl rfl 3 (by decide) q0 rfl (v := .int (oT.1 3)) rfl dX5_refresh_1 ?_
    refine lv_if_eq (tgt := 8) hx hb dX5_refresh_4 (by decide) (fun c1 => ?_) (fun c1 => ?_)
    · have hf := if_t c1 hf
      refine lv_aload_n hx hb dX5_refresh_8 rfl (lv_at hl 0 rfl) ?_
      obtain ⟨oT2, oC3, g4, hf⟩ := bn2_e hf
      have fr := fr_X5_X5_oT_oB_oC_oG o cA oT oB oC oG oT2 oB oC3 oG
      refine go_v (run_v (As := []) (rest := []) ⟨hx, hb, hml, hown, hts⟩ (k_X5_gatherBallots l D cA tx ty o oT oB oC oG oT2 oC3 g4 H.size) (cwV 0 hts gX5_refresh_X5_gatherBallots rfl rfl rfl hd_X5_gatherBallots ⟨Nat.le_of_ble_eq_true rfl, Nat.le_of_ble_eq_true rfl⟩) fr hw hK hA hZo hZ (ci := 5) rfl rfl rfl rfl hl.1 rfl (Nat.le_of_ble_eq_true rfl) dX5_refresh_9 ⟨Nat.zero_le _, Nat.zero_le _⟩) fr hw hA (fun H locs hw => ?_)
      refine lv_aload_n hx hb dX5_refresh_12 rfl (lv_at hl 0 rfl) ?_
      refine w_get hx hb hts hi5 hown hK hw 0 rfl rfl 7 (by decide) q1 rfl (v := .ref (o 14)) rfl dX5_refresh_13 ?_
      refine lv_aload_n hx hb dX5_refresh_16 rfl (lv_at hl 0 rfl) ?_
      refine w_get hx hb hts hi5 hown hK hw 0 rfl rfl 5 (by decide) q2 rfl (v := .int (oT2.1 5)) rfl dX5_refresh_17 ?_
      obtain ⟨f5, g6, hf⟩ := bn1_e hf
      have fr := fr_X5_F_arroT7 o cA oT2 oB oC3 oG f5
      refine go_v (run_s (As := [.ref (o 14), .int (oT2.1 5)]) (rest := []) ⟨hx, hb, hml, hown, hts⟩ (k_X5_sortUp l D cA (fun _ => o 14) (oT2.2.2 7) (oT2.1 5) f5 g6 H.size) (va_cwS 2 hts gX5_refresh_X5_sortUp rfl rfl rfl hd_X5_sortUp ⟨Nat.le_of_ble_eq_true rfl, Nat.le_of_ble_eq_true rfl⟩) fr hw hK hA rfl hl.1 rfl (Nat.le_of_ble_eq_true rfl) dX5_refresh_20 ⟨Nat.zero_le _, Nat.zero_le _⟩) fr hw hA (fun H locs hw => ?_)
      refine lv_aload_n hx hb dX5_refresh_23 rfl (lv_at hl 0 rfl) ?_
      obtain ⟨oT7, g8, hf⟩ := bn1_e hf
      have fr := fr_X5_X5_oT_oB_oC_oG o cA ((sR oT2 7 f5)) oB oC3 oG oT7 oB oC3 oG
      refine go_v (run_v (As := []) (rest := []) ⟨hx, hb, hml, hown, hts⟩ (k_X5_countBallots l D cA tx ty o ((sR oT2 7 f5)) oB oC3 oG oT7 g8 H.size) (cwV 0 hts gX5_refresh_X5_countBallots rfl rfl rfl hd_X5_countBallots ⟨Nat.le_of_ble_eq_true rfl, Nat.le_of_ble_eq_true rfl⟩) fr hw hK hA hZo hZ (ci := 5) rfl rfl rfl rfl hl.1 rfl (Nat.le_of_ble_eq_true rfl) dX5_refresh_24 ⟨Nat.zero_le _, Nat.zero_le _⟩) fr hw hA (fun H locs hw => ?_)
      refine lv_aload_n hx hb dX5_refresh_27 rfl (lv_at hl 0 rfl) ?_
      refine w_get hx hb hts hi5 hown hK hw 0 rfl rfl 8 (by decide) q3 rfl (v := .ref (o 15)) rfl dX5_refresh_28 ?_
      refine lv_aload_n hx hb dX5_refresh_31 rfl (lv_at hl 0 rfl) ?_
      refine w_get hx hb hts hi5 hown hK hw 0 rfl rfl 4 (by decide) q4 rfl (v := .int (oT7.1 4)) rfl dX5_refresh_32 ?_
      obtain ⟨f9, g10, hf⟩ := bn1_e hf
      have fr := fr_X5_F_arroT8 o cA oT7 oB oC3 oG f9
      refine go_v (run_s (As := [.ref (o 15), .int (oT7.1 4)]) (rest := []) ⟨hx, hb, hml, hown, hts⟩ (k_X5_sortUp l D cA (fun _ => o 15) (oT7.2.2 8) (oT7.1 4) f9 g10 H.size) (va_cwS 2 hts gX5_refresh_X5_sortUp rfl rfl rfl hd_X5_sortUp ⟨Nat.le_of_ble_eq_true rfl, Nat.le_of_ble_eq_true rfl⟩) fr hw hK hA rfl hl.1 rfl (Nat.le_of_ble_eq_true rfl) dX5_refresh_35 ⟨Nat.zero_le _, Nat.zero_le _⟩) fr hw hA (fun H locs hw => ?_)
      refine lv_iconst (v := 0) hx hb dX5_refresh_38 (by decide) ?_
      refine lv_istore_n (lv' := [(1, .int 0), (0, .ref (o 13))]) hx hb dX5_refresh_39 rfl hl (by decide) rfl (fun ls hl => ?_)
      exact h_L40 oC3 _ 0 ((sR oT7 8 f9)) oG hf H locs ls hw (lv_sub hl [1, 0] rfl)
    · have hf := if_f c1 hf
      obtain ⟨e0_, e1_, e2_⟩ := sm3 hf
      exact hret _ _ _ _ (by rw [← e0_, ← e1_, ← e2_]; exact hw) dX5_refresh_7
  rw [hH, hlc] at goal
  exact goal
abbrev rmX5_votesAt : Room := { frames := 0, cells := 0, slots := 0, locals := 0 }
theorem hd_X5_votesAt : yX5_votesAt.cls = RX5 ∧ yX5_votesAt.cls ≠ "java/lang/invoke/MethodHandle" ∧ yX5_votesAt.cls ≠ "java/lang/invoke/VarHandle" ∧ (parseMethodDescriptor yX5_votesAt.desc).map (fun d => d.parameters.length) = some 1 := by decide +kernel
set_option maxHeartbeats 4000000 in
set_option maxRecDepth 100000 in
theorem k_X5_votesAt (l : Launch) (D : va_G) (cA : ClassId) (tx ty : Nat) (o : Nat → Nat) (oT : St) (oB : St) (oC : St) (oG : St) (a1 : Int32) (r : Int32) (hf : f_X5_votesAt oT a1 = some (r)) : Mi l yX5_votesAt wsX5_votesAt rmX5_votesAt D cA (z_X tx ty) [.ref (o 13), .int a1] (wX5 o cA oT oB oC oG) r (wX5 o cA oT oB oC oG) := by
  refine Mi.of (cc := cX5_votesAt) (maxL := 2) (ret := (some .int)) (plainFor_of_name (by decide)) rfl (Nat.le_of_ble_eq_true rfl) (Or.inl rfl) ?_
  intro p e s m below meth c A Q hx hb hml hown hts hK hA hZ hret ls hl hw
  replace hown : s.vm.findClass RX5 = some m.cls := hown
  have hl : lv_has ls 2 [(0, .ref (o 13)), (1, .int a1)] := hl
  have hZo := z_X_ok tx ty
  have hi5 : ∀ w ∈ wsX50, w ∈ wsX5_votesAt := fun w h => List.mem_cons_of_mem _ (List.mem_append_right _ h)
  have q0 := hts (.fieldLink RX5 15 "ArcRings$Table" "order" "[I") (by decide +kernel)
  unfold f_X5_votesAt at hf
  obtain ⟨H, hH⟩ : ∃ H, H = s.heap := ⟨_, rfl⟩
  obtain ⟨locs, hlc⟩ : ∃ locs : List Loc, locs = [] := ⟨_, rfl⟩
  have hw : Wd D A s.heap H locs (wX5 o cA oT oB oC oG) := by rw [hH, hlc]; exact hw
  have goal : W p l e rmX5_votesAt s m ([.ref (o 13), .int a1] : List Value).toArray below meth c H locs 0 0 Q (F0 m 0 ls []) := by
    clear hH hlc
    refine lv_sipush (v := 364) hx hb dX5_votesAt_0 (by decide) ?_
    refine lv_aload_n hx hb dX5_votesAt_3 rfl (lv_at hl 0 rfl) ?_
    refine w_get hx hb hts hi5 hown hK hw 0 rfl rfl 8 (by decide) q0 rfl (v := .ref (o 15)) rfl dX5_votesAt_4 ?_
    refine lv_iload_n hx hb dX5_votesAt_7 rfl (lv_at hl 1 rfl) ?_
    obtain ⟨x1, g2, hf⟩ := bn1_e hf
    refine w_ald hx hb hK hw 2 rfl g2 dX5_votesAt_8 ?_
    refine lv_bipush (v := 15) hx hb dX5_votesAt_9 (by decide) ?_
    refine lv_ishr hx hb dX5_votesAt_11 ?_
    refine lv_isub hx hb dX5_votesAt_12 ?_
    have e0_ := sm1 hf
    exact hret _ _ _ _ _ hw e0_ (Or.inl rfl) dX5_votesAt_13
  rw [hH, hlc] at goal
  exact goal
abbrev rmX5_votesFor : Room := { frames := 1, cells := 0, slots := 0, locals := 21 }
theorem hd_X5_votesFor : yX5_votesFor.cls = RX5 ∧ yX5_votesFor.cls ≠ "java/lang/invoke/MethodHandle" ∧ yX5_votesFor.cls ≠ "java/lang/invoke/VarHandle" ∧ (parseMethodDescriptor yX5_votesFor.desc).map (fun d => d.parameters.length) = some 3 := by decide +kernel
set_option maxHeartbeats 4000000 in
set_option maxRecDepth 100000 in
theorem k_X5_votesFor (l : Launch) (D : va_G) (cA : ClassId) (tx ty : Nat) (o : Nat → Nat) (oT : St) (oB : St) (oC : St) (oG : St) (a1 : Int32) (a2 : Int32) (a3 : Int32) (r : Int32) (hf : f_X5_votesFor oT a1 a2 a3 = some (r)) : Mi l yX5_votesFor wsX5_votesFor rmX5_votesFor D cA (z_X tx ty) [.ref (o 13), .int a1, .int a2, .int a3] (wX5 o cA oT oB oC oG) r (wX5 o cA oT oB oC oG) := by
  refine Mi.of (cc := cX5_votesFor) (maxL := 6) (ret := (some .int)) (plainFor_of_name (by decide)) rfl (Nat.le_of_ble_eq_true rfl) (Or.inl rfl) ?_
  intro p e s m below meth c A Q hx hb hml hown hts hK hA hZ hret ls hl hw
  replace hown : s.vm.findClass RX5 = some m.cls := hown
  have hl : lv_has ls 6 [(0, .ref (o 13)), (1, .int a1), (2, .int a2), (3, .int a3)] := hl
  have hZo := z_X_ok tx ty
  have hi5 : ∀ w ∈ wsX50, w ∈ wsX5_votesFor := fun w h => List.mem_cons_of_mem _ (List.mem_append_right _ h)
  have q0 := hts (.fieldLink RX5 51 "ArcRings$Table" "size" "I") (by decide +kernel)
  have q1 := hts (.initialized RX6) (by decide +kernel)
  have q2 := hts (.static yX6_keyX) (by decide +kernel)
  have q3 := hts (.static yX6_keyY) (by decide +kernel)
  have q4 := hts (.static yX6_keyRadius) (by decide +kernel)
  have h_L3 : ∀ (v1 : Int32) (v2 : Int32) (v3 : Int32), ∀ (n : Nat) (v4 : Int32), f_X5_votesFor_L3 oT v1 v2 v3 n v4 = some (r) → ∀ (H : Heap) (locs : List Loc) (ls : Array Slot), Wd D A s.heap H locs (wX5 o cA oT oB oC oG) → lv_has ls 6 [(0, .ref (o 13)), (1, .int v1), (2, .int v2), (3, .int v3), (4, .int v4)] → W p l e rmX5_votesFor s m ([.ref (o 13), .int a1, .int a2, .int a3] : List Value).toArray below meth c H locs 0 0 Q (F0 m 3 ls []) := by
    intro v1 v2 v3 n
    induction n with
    | zero =>
      intro v4 hf
      have hf : none = some (r) := hf
      cases hf
    | succ n ih =>
      intro v4 hf H locs ls hw hl
      have hf := (f_X5_votesFor_L3_s oT v1 v2 v3 n v4).symm.trans hf
      refine lv_iload hx hb dX5_votesFor_3 (lv_at hl 4 rfl) ?_
      refine lv_aload_n hx hb dX5_votesFor_5 rfl (lv_at hl 0 rfl) ?_
      refine w_get hx hb hts hi5 hown hK hw 0 rfl rfl 4 (by decide) q0 rfl (v := .int (oT.1 4)) rfl dX5_votesFor_6 ?_
      refine lv_icmp_ge (tgt := 60) hx hb dX5_votesFor_9 (by decide) (fun c1 => ?_) (fun c1 => ?_)
      · have hf := if_t c1 hf
        refine lv_iconst (v := 0) hx hb dX5_votesFor_60 (by decide) ?_
        have e0_ := sm1 hf
        exact hret _ _ _ _ _ hw e0_ (Or.inl rfl) dX5_votesFor_61
      · have hf := if_f c1 hf
        refine lv_aload_n hx hb dX5_votesFor_12 rfl (lv_at hl 0 rfl) ?_
        refine lv_iload hx hb dX5_votesFor_13 (lv_at hl 4 rfl) ?_
        obtain ⟨x2, g3, hf⟩ := bn1_e hf
        have fr := fr_X5_X5_oT_oB_oC_oG o cA oT oB oC oG oT oB oC oG
        refine go_i (run_v (As := [.int v4]) (rest := []) ⟨hx, hb, hml, hown, hts⟩ (k_X5_keyAt l D cA tx ty o oT oB oC oG v4 x2 g3 H.size) (cwV 1 hts gX5_votesFor_X5_keyAt rfl rfl rfl hd_X5_keyAt ⟨Nat.le_of_ble_eq_true rfl, Nat.le_of_ble_eq_true rfl⟩) fr hw hK hA hZo hZ (ci := 5) rfl rfl rfl rfl hl.1 rfl (Nat.le_of_ble_eq_true rfl) dX5_votesFor_15 ⟨Nat.zero_le _, Nat.zero_le _⟩) fr hw hA (fun H locs hw => ?_)
        refine lv_istore (lv' := [(5, .int x2), (0, .ref (o 13)), (1, .int v1), (2, .int v2), (3, .int v3), (4, .int v4)]) hx hb dX5_votesFor_18 hl (by decide) rfl (fun ls hl => ?_)
        refine lv_iload hx hb dX5_votesFor_20 (lv_at hl 0 rfl) ?_
        obtain ⟨x4, g5, hf⟩ := bn1_e hf
        have fr := fr_X5_S o cA oT oB oC oG
        refine go_i (run_n (As := [.int x2]) (rest := []) ⟨hx, hb, hml, hown, hts⟩ (k_X6_keyX l D cA x2 x4 g5 H.size) ⟨va_cnB 1 hts gX5_votesFor_X6_keyX_n91 rfl rfl rfl (hZ.2.2.2.2.2 (RX5, 91, yX6_keyX) (List.mem_of_getElem? (i := 7) rfl)) q1 hd_X6_keyX ⟨Nat.le_of_ble_eq_true rfl, Nat.le_of_ble_eq_true rfl⟩, q2, trivial⟩ fr hw hK hA rfl hl.1 rfl (Nat.le_of_ble_eq_true rfl) dX5_votesFor_22 ⟨Nat.zero_le _, Nat.zero_le _⟩) fr hw hA (fun H locs hw => ?_)
        refine lv_iload_n hx hb dX5_votesFor_25 rfl (lv_at hl 2 rfl) ?_
        refine lv_icmp_ne (tgt := 54) hx hb dX5_votesFor_26 (by decide) (fun c6 => ?_) (fun c6 => ?_)
        · have hf := if_f c6 hf
          refine lv_iinc (v := v4 + 1) (lv' := [(4, .int (v4 + 1)), (5, .int x2), (0, .ref (o 13)), (1, .int v1), (2, .int v2), (3, .int v3)]) hx hb dX5_votesFor_54 hl (k := 5) rfl (by rfl) (by decide) rfl (fun ls hl => ?_)
          refine lv_goto (tgt := 3) hx hb dX5_votesFor_57 (by decide) ?_
          exact ih (v4 + 1) hf H locs ls hw (lv_sub hl [2, 3, 4, 5, 0] rfl)
        · have hf := if_t c6 hf
          refine lv_iload hx hb dX5_votesFor_29 (lv_at hl 0 rfl) ?_
          obtain ⟨x7, g8, hf⟩ := bn1_e hf
          have fr := fr_X5_S o cA oT oB oC oG
          refine go_i (run_n (As := [.int x2]) (rest := []) ⟨hx, hb, hml, hown, hts⟩ (k_X6_keyY l D cA x2 x7 g8 H.size) ⟨va_cnB 1 hts gX5_votesFor_X6_keyY_n94 rfl rfl rfl (hZ.2.2.2.2.2 (RX5, 94, yX6_keyY) (List.mem_of_getElem? (i := 8) rfl)) q1 hd_X6_keyY ⟨Nat.le_of_ble_eq_true rfl, Nat.le_of_ble_eq_true rfl⟩, q3, trivial⟩ fr hw hK hA rfl hl.1 rfl (Nat.le_of_ble_eq_true rfl) dX5_votesFor_31 ⟨Nat.zero_le _, Nat.zero_le _⟩) fr hw hA (fun H locs hw => ?_)
          refine lv_iload_n hx hb dX5_votesFor_34 rfl (lv_at hl 3 rfl) ?_
          refine lv_icmp_ne (tgt := 54) hx hb dX5_votesFor_35 (by decide) (fun c9 => ?_) (fun c9 => ?_)
          · have hf := if_f c9 hf
            refine lv_iinc (v := v4 + 1) (lv' := [(4, .int (v4 + 1)), (5, .int x2), (0, .ref (o 13)), (1, .int v1), (2, .int v2), (3, .int v3)]) hx hb dX5_votesFor_54 hl (k := 5) rfl (by rfl) (by decide) rfl (fun ls hl => ?_)
            refine lv_goto (tgt := 3) hx hb dX5_votesFor_57 (by decide) ?_
            exact ih (v4 + 1) hf H locs ls hw (lv_sub hl [2, 3, 4, 5, 0] rfl)
          · have hf := if_t c9 hf
            refine lv_iload hx hb dX5_votesFor_38 (lv_at hl 0 rfl) ?_
            obtain ⟨x10, g11, hf⟩ := bn1_e hf
            have fr := fr_X5_S o cA oT oB oC oG
            refine go_i (run_n (As := [.int x2]) (rest := []) ⟨hx, hb, hml, hown, hts⟩ (k_X6_keyRadius l D cA x2 x10 g11 H.size) ⟨va_cnB 1 hts gX5_votesFor_X6_keyRadius_n97 rfl rfl rfl (hZ.2.2.2.2.2 (RX5, 97, yX6_keyRadius) (List.mem_of_getElem? (i := 9) rfl)) q1 hd_X6_keyRadius ⟨Nat.le_of_ble_eq_true rfl, Nat.le_of_ble_eq_true rfl⟩, q4, trivial⟩ fr hw hK hA rfl hl.1 rfl (Nat.le_of_ble_eq_true rfl) dX5_votesFor_40 ⟨Nat.zero_le _, Nat.zero_le _⟩) fr hw hA (fun H locs hw => ?_)
            refine lv_iload_n hx hb dX5_votesFor_43 rfl (lv_at hl 4 rfl) ?_
            refine lv_icmp_ne (tgt := 54) hx hb dX5_votesFor_44 (by decide) (fun c12 => ?_) (fun c12 => ?_)
            · have hf := if_f c12 hf
              refine lv_iinc (v := v4 + 1) (lv' := [(4, .int (v4 + 1)), (5, .int x2), (0, .ref (o 13)), (1, .int v1), (2, .int v2), (3, .int v3)]) hx hb dX5_votesFor_54 hl (k := 5) rfl (by rfl) (by decide) rfl (fun ls hl => ?_)
              refine lv_goto (tgt := 3) hx hb dX5_votesFor_57 (by decide) ?_
              exact ih (v4 + 1) hf H locs ls hw (lv_sub hl [2, 3, 4, 5, 0] rfl)
            · have hf := if_t c12 hf
              refine lv_aload_n hx hb dX5_votesFor_47 rfl (lv_at hl 1 rfl) ?_
              refine lv_iload hx hb dX5_votesFor_48 (lv_at hl 5 rfl) ?_
              obtain ⟨x13, g14, hf⟩ := bn1_e hf
              have fr := fr_X5_X5_oT_oB_oC_oG o cA oT oB oC oG oT oB oC oG
              refine go_i (run_v (As := [.int v4]) (rest := []) ⟨hx, hb, hml, hown, hts⟩ (k_X5_votesAt l D cA tx ty o oT oB oC oG v4 x13 g14 H.size) (cwV 1 hts gX5_votesFor_X5_votesAt rfl rfl rfl hd_X5_votesAt ⟨Nat.le_of_ble_eq_true rfl, Nat.le_of_ble_eq_true rfl⟩) fr hw hK hA hZo hZ (ci := 5) rfl rfl rfl rfl hl.1 rfl (Nat.le_of_ble_eq_true rfl) dX5_votesFor_50 ⟨Nat.zero_le _, Nat.zero_le _⟩) fr hw hA (fun H locs hw => ?_)
              have e0_ := sm1 hf
              exact hret _ _ _ _ _ hw e0_ (Or.inl rfl) dX5_votesFor_53
  unfold f_X5_votesFor at hf
  obtain ⟨H, hH⟩ : ∃ H, H = s.heap := ⟨_, rfl⟩
  obtain ⟨locs, hlc⟩ : ∃ locs : List Loc, locs = [] := ⟨_, rfl⟩
  have hw : Wd D A s.heap H locs (wX5 o cA oT oB oC oG) := by rw [hH, hlc]; exact hw
  have goal : W p l e rmX5_votesFor s m ([.ref (o 13), .int a1, .int a2, .int a3] : List Value).toArray below meth c H locs 0 0 Q (F0 m 0 ls []) := by
    clear hH hlc
    refine lv_iconst (v := 0) hx hb dX5_votesFor_0 (by decide) ?_
    refine lv_istore (lv' := [(4, .int 0), (0, .ref (o 13)), (1, .int a1), (2, .int a2), (3, .int a3)]) hx hb dX5_votesFor_1 hl (by decide) rfl (fun ls hl => ?_)
    exact h_L3 a1 a2 a3 _ 0 hf H locs ls hw (lv_sub hl [1, 2, 3, 4, 0] rfl)
  rw [hH, hlc] at goal
  exact goal
abbrev rmX5_tell : Room := { frames := 2, cells := 0, slots := 0, locals := 47 }
theorem hd_X5_tell : yX5_tell.cls = RX5 ∧ yX5_tell.cls ≠ "java/lang/invoke/MethodHandle" ∧ yX5_tell.cls ≠ "java/lang/invoke/VarHandle" ∧ (parseMethodDescriptor yX5_tell.desc).map (fun d => d.parameters.length) = some 2 := by decide +kernel
set_option maxHeartbeats 4000000 in
set_option maxRecDepth 100000 in
theorem k_X5_tell (l : Launch) (D : va_G) (cA : ClassId) (tx ty : Nat) (o : Nat → Nat) (oT : St) (oB : St) (oC : St) (oG : St) (a1 : Int32) (a2 : Int32) (r : Int32) (oG' : St) (hf : f_X5_tell oT oB oG a1 a2 = some (r, oG')) : Mi l yX5_tell wsX5_tell rmX5_tell D cA (z_X tx ty) [.ref (o 13), .int a1, .int a2] (wX5 o cA oT oB oC oG) r (wX5 o cA oT oB oC oG') := by
  refine Mi.of (cc := cX5_tell) (maxL := 4) (ret := (some .int)) (plainFor_of_name (by decide)) rfl (Nat.le_of_ble_eq_true rfl) (Or.inl rfl) ?_
  intro p e s m below meth c A Q hx hb hml hown hts hK hA hZ hret ls hl hw
  replace hown : s.vm.findClass RX5 = some m.cls := hown
  have hl : lv_has ls 4 [(0, .ref (o 13)), (1, .int a1), (2, .int a2)] := hl
  have hZo := z_X_ok tx ty
  have hi5 : ∀ w ∈ wsX50, w ∈ wsX5_tell := fun w h => List.mem_cons_of_mem _ (List.mem_append_left _ (List.mem_append_left _ (List.mem_append_right _ h)))
  have q0 := hts (.initialized RX6) (by decide +kernel)
  have q1 := hts (.static yX6_keyX) (by decide +kernel)
  have q2 := hts (.static yX6_keyY) (by decide +kernel)
  have q3 := hts (.static yX6_keyRadius) (by decide +kernel)
  have q4 := hts (.fieldLink RX5 18 "ArcRings$Table" "supporters" "[I") (by decide +kernel)
  have q5 := hts (.fieldLink RX5 29 "ArcRings$Table" "sight" "LArcRings$Sight;") (by decide +kernel)
  unfold f_X5_tell at hf
  obtain ⟨H, hH⟩ : ∃ H, H = s.heap := ⟨_, rfl⟩
  obtain ⟨locs, hlc⟩ : ∃ locs : List Loc, locs = [] := ⟨_, rfl⟩
  have hw : Wd D A s.heap H locs (wX5 o cA oT oB oC oG) := by rw [hH, hlc]; exact hw
  have goal : W p l e rmX5_tell s m ([.ref (o 13), .int a1, .int a2] : List Value).toArray below meth c H locs 0 0 Q (F0 m 0 ls []) := by
    clear hH hlc
    refine lv_aload_n hx hb dX5_tell_0 rfl (lv_at hl 0 rfl) ?_
    refine lv_iload_n hx hb dX5_tell_1 rfl (lv_at hl 1 rfl) ?_
    obtain ⟨x1, g2, hf⟩ := bn1_e hf
    have fr := fr_X5_X5_oT_oB_oC_oG o cA oT oB oC oG oT oB oC oG
    refine go_i (run_v (As := [.int a1]) (rest := []) ⟨hx, hb, hml, hown, hts⟩ (k_X5_keyAt l D cA tx ty o oT oB oC oG a1 x1 g2 H.size) (cwV 1 hts gX5_tell_X5_keyAt rfl rfl rfl hd_X5_keyAt ⟨Nat.le_of_ble_eq_true rfl, Nat.le_of_ble_eq_true rfl⟩) fr hw hK hA hZo hZ (ci := 5) rfl rfl rfl rfl hl.1 rfl (Nat.le_of_ble_eq_true rfl) dX5_tell_2 ⟨Nat.zero_le _, Nat.zero_le _⟩) fr hw hA (fun H locs hw => ?_)
    refine lv_istore_n (lv' := [(3, .int x1), (0, .ref (o 13)), (1, .int a1), (2, .int a2)]) hx hb dX5_tell_5 rfl hl (by decide) rfl (fun ls hl => ?_)
    refine lv_iload_n hx hb dX5_tell_6 rfl (lv_at hl 3 rfl) ?_
    by_cases c3 : a2 = 0
    · have hf := if_t c3 hf
      refine lv_tableIn (tgt := 48) hx hb dX5_tell_7 (by rw [c3]; decide) (by rw [c3]; decide) (by rw [c3]; rfl) (by decide) ?_
      refine lv_iload_n hx hb dX5_tell_48 rfl (lv_at hl 0 rfl) ?_
      obtain ⟨x4, g5, hf⟩ := bn1_e hf
      have fr := fr_X5_S o cA oT oB oC oG
      refine go_i (run_n (As := [.int x1]) (rest := []) ⟨hx, hb, hml, hown, hts⟩ (k_X6_keyX l D cA x1 x4 g5 H.size) ⟨va_cnB 1 hts gX5_tell_X6_keyX_n91 rfl rfl rfl (hZ.2.2.2.2.2 (RX5, 91, yX6_keyX) (List.mem_of_getElem? (i := 7) rfl)) q0 hd_X6_keyX ⟨Nat.le_of_ble_eq_true rfl, Nat.le_of_ble_eq_true rfl⟩, q1, trivial⟩ fr hw hK hA rfl hl.1 rfl (Nat.le_of_ble_eq_true rfl) dX5_tell_49 ⟨Nat.zero_le _, Nat.zero_le _⟩) fr hw hA (fun H locs hw => ?_)
      obtain ⟨e0_, e1_⟩ := sm2 hf
      exact hret _ _ _ _ _ (by rw [← e1_]; exact hw) e0_ (Or.inl rfl) dX5_tell_52
    have hf := if_f c3 hf
    by_cases c6 : a2 = 1
    · have hf := if_t c6 hf
      refine lv_tableIn (tgt := 53) hx hb dX5_tell_7 (by rw [c6]; decide) (by rw [c6]; decide) (by rw [c6]; rfl) (by decide) ?_
      refine lv_iload_n hx hb dX5_tell_53 rfl (lv_at hl 0 rfl) ?_
      obtain ⟨x7, g8, hf⟩ := bn1_e hf
      have fr := fr_X5_S o cA oT oB oC oG
      refine go_i (run_n (As := [.int x1]) (rest := []) ⟨hx, hb, hml, hown, hts⟩ (k_X6_keyY l D cA x1 x7 g8 H.size) ⟨va_cnB 1 hts gX5_tell_X6_keyY_n94 rfl rfl rfl (hZ.2.2.2.2.2 (RX5, 94, yX6_keyY) (List.mem_of_getElem? (i := 8) rfl)) q0 hd_X6_keyY ⟨Nat.le_of_ble_eq_true rfl, Nat.le_of_ble_eq_true rfl⟩, q2, trivial⟩ fr hw hK hA rfl hl.1 rfl (Nat.le_of_ble_eq_true rfl) dX5_tell_54 ⟨Nat.zero_le _, Nat.zero_le _⟩) fr hw hA (fun H locs hw => ?_)
      obtain ⟨e0_, e1_⟩ := sm2 hf
      exact hret _ _ _ _ _ (by rw [← e1_]; exact hw) e0_ (Or.inl rfl) dX5_tell_57
    have hf := if_f c6 hf
    by_cases c9 : a2 = 2
    · have hf := if_t c9 hf
      refine lv_tableIn (tgt := 58) hx hb dX5_tell_7 (by rw [c9]; decide) (by rw [c9]; decide) (by rw [c9]; rfl) (by decide) ?_
      refine lv_iload_n hx hb dX5_tell_58 rfl (lv_at hl 0 rfl) ?_
      obtain ⟨x10, g11, hf⟩ := bn1_e hf
      have fr := fr_X5_S o cA oT oB oC oG
      refine go_i (run_n (As := [.int x1]) (rest := []) ⟨hx, hb, hml, hown, hts⟩ (k_X6_keyRadius l D cA x1 x10 g11 H.size) ⟨va_cnB 1 hts gX5_tell_X6_keyRadius_n97 rfl rfl rfl (hZ.2.2.2.2.2 (RX5, 97, yX6_keyRadius) (List.mem_of_getElem? (i := 9) rfl)) q0 hd_X6_keyRadius ⟨Nat.le_of_ble_eq_true rfl, Nat.le_of_ble_eq_true rfl⟩, q3, trivial⟩ fr hw hK hA rfl hl.1 rfl (Nat.le_of_ble_eq_true rfl) dX5_tell_59 ⟨Nat.zero_le _, Nat.zero_le _⟩) fr hw hA (fun H locs hw => ?_)
      obtain ⟨e0_, e1_⟩ := sm2 hf
      exact hret _ _ _ _ _ (by rw [← e1_]; exact hw) e0_ (Or.inl rfl) dX5_tell_62
    have hf := if_f c9 hf
    by_cases c12 : a2 = 3
    · have hf := if_t c12 hf
      refine lv_tableIn (tgt := 63) hx hb dX5_tell_7 (by rw [c12]; decide) (by rw [c12]; decide) (by rw [c12]; rfl) (by decide) ?_
      refine lv_aload_n hx hb dX5_tell_63 rfl (lv_at hl 1 rfl) ?_
      refine lv_iload_n hx hb dX5_tell_64 rfl (lv_at hl 2 rfl) ?_
      obtain ⟨x13, g14, hf⟩ := bn1_e hf
      have fr := fr_X5_X5_oT_oB_oC_oG o cA oT oB oC oG oT oB oC oG
      refine go_i (run_v (As := [.int a1]) (rest := []) ⟨hx, hb, hml, hown, hts⟩ (k_X5_votesAt l D cA tx ty o oT oB oC oG a1 x13 g14 H.size) (cwV 1 hts gX5_tell_X5_votesAt rfl rfl rfl hd_X5_votesAt ⟨Nat.le_of_ble_eq_true rfl, Nat.le_of_ble_eq_true rfl⟩) fr hw hK hA hZo hZ (ci := 5) rfl rfl rfl rfl hl.1 rfl (Nat.le_of_ble_eq_true rfl) dX5_tell_65 ⟨Nat.zero_le _, Nat.zero_le _⟩) fr hw hA (fun H locs hw => ?_)
      obtain ⟨e0_, e1_⟩ := sm2 hf
      exact hret _ _ _ _ _ (by rw [← e1_]; exact hw) e0_ (Or.inl rfl) dX5_tell_68
    have hf := if_f c12 hf
    by_cases c15 : a2 = 4
    · have hf := if_t c15 hf
      refine lv_tableIn (tgt := 69) hx hb dX5_tell_7 (by rw [c15]; decide) (by rw [c15]; decide) (by rw [c15]; rfl) (by decide) ?_
      refine lv_aload_n hx hb dX5_tell_69 rfl (lv_at hl 1 rfl) ?_
      refine w_get hx hb hts hi5 hown hK hw 0 rfl rfl 9 (by decide) q4 rfl (v := .ref (o 16)) rfl dX5_tell_70 ?_
      refine lv_iload_n hx hb dX5_tell_73 rfl (lv_at hl 2 rfl) ?_
      obtain ⟨x16, g17, hf⟩ := bn1_e hf
      refine w_ald hx hb hK hw 3 rfl g17 dX5_tell_74 ?_
      obtain ⟨x18, g19, hf⟩ := bn1_e hf
      have fr := fr_X5_S o cA oT oB oC oG
      refine go_i (run_s (As := [.int x16]) (rest := []) ⟨hx, hb, hml, hown, hts⟩ (k_J6_bitCount_0f7a4 l D cA x16 x18 g19 H.size) (va_cwS 1 hts gX5_tell_J6_bitCount_0f7a4 rfl rfl rfl hd_J6_bitCount_0f7a4 ⟨Nat.le_of_ble_eq_true rfl, Nat.le_of_ble_eq_true rfl⟩) fr hw hK hA rfl hl.1 rfl (Nat.le_of_ble_eq_true rfl) dX5_tell_75 ⟨Nat.zero_le _, Nat.zero_le _⟩) fr hw hA (fun H locs hw => ?_)
      obtain ⟨e0_, e1_⟩ := sm2 hf
      exact hret _ _ _ _ _ (by rw [← e1_]; exact hw) e0_ (Or.inl rfl) dX5_tell_78
    have hf := if_f c15 hf
    by_cases c20 : a2 = 5
    · have hf := if_t c20 hf
      refine lv_tableIn (tgt := 79) hx hb dX5_tell_7 (by rw [c20]; decide) (by rw [c20]; decide) (by rw [c20]; rfl) (by decide) ?_
      refine lv_aload_n hx hb dX5_tell_79 rfl (lv_at hl 1 rfl) ?_
      refine w_get hx hb hts hi5 hown hK hw 0 rfl rfl 2 (by decide) q5 rfl (v := .ref (o 12)) rfl dX5_tell_80 ?_
      refine lv_iload_n hx hb dX5_tell_83 rfl (lv_at hl 0 rfl) ?_
      obtain ⟨oG21, g22, hf⟩ := bn1_e hf
      have fr := fr_X5_X4_oG_oB o cA oT oB oC oG oG21 oB
      refine go_v (run_v (As := [.int x1]) (rest := []) ⟨hx, hb, hml, hown, hts⟩ (k_X4_from l D cA tx ty o oG oB x1 oG21 g22 H.size) (cwV 1 hts gX5_tell_X4_from rfl rfl rfl hd_X4_from ⟨Nat.le_of_ble_eq_true rfl, Nat.le_of_ble_eq_true rfl⟩) fr hw hK hA hZo hZ (ci := 4) rfl rfl rfl rfl hl.1 rfl (Nat.le_of_ble_eq_true rfl) dX5_tell_84 ⟨Nat.zero_le _, Nat.zero_le _⟩) fr hw hA (fun H locs hw => ?_)
      refine lv_aload_n hx hb dX5_tell_87 rfl (lv_at hl 1 rfl) ?_
      refine w_get hx hb hts hi5 hown hK hw 0 rfl rfl 2 (by decide) q5 rfl (v := .ref (o 12)) rfl dX5_tell_88 ?_
      refine lv_aload_n hx hb dX5_tell_91 rfl (lv_at hl 1 rfl) ?_
      refine w_get hx hb hts hi5 hown hK hw 0 rfl rfl 9 (by decide) q4 rfl (v := .ref (o 16)) rfl dX5_tell_92 ?_
      refine lv_iload_n hx hb dX5_tell_95 rfl (lv_at hl 2 rfl) ?_
      obtain ⟨x23, g24, hf⟩ := bn1_e hf
      refine w_ald hx hb hK hw 3 rfl g24 dX5_tell_96 ?_
      obtain ⟨x25, g26, hf⟩ := bn1_e hf
      have fr := fr_X5_X4_oG_oB o cA oT oB oC oG21 oG21 oB
      refine go_i (run_v (As := [.int x23]) (rest := []) ⟨hx, hb, hml, hown, hts⟩ (k_X4_span l D cA tx ty o oG21 oB x23 x25 g26 H.size) (cwV 1 hts gX5_tell_X4_span rfl rfl rfl hd_X4_span ⟨Nat.le_of_ble_eq_true rfl, Nat.le_of_ble_eq_true rfl⟩) fr hw hK hA hZo hZ (ci := 4) rfl rfl rfl rfl hl.1 rfl (Nat.le_of_ble_eq_true rfl) dX5_tell_97 ⟨Nat.zero_le _, Nat.zero_le _⟩) fr hw hA (fun H locs hw => ?_)
      obtain ⟨e0_, e1_⟩ := sm2 hf
      exact hret _ _ _ _ _ (by rw [← e1_]; exact hw) e0_ (Or.inl rfl) dX5_tell_100
    have hf := if_f c20 hf
    by_cases c27 : a2 = 6
    · have hf := if_t c27 hf
      refine lv_tableIn (tgt := 101) hx hb dX5_tell_7 (by rw [c27]; decide) (by rw [c27]; decide) (by rw [c27]; rfl) (by decide) ?_
      refine lv_aload_n hx hb dX5_tell_101 rfl (lv_at hl 1 rfl) ?_
      refine w_get hx hb hts hi5 hown hK hw 0 rfl rfl 9 (by decide) q4 rfl (v := .ref (o 16)) rfl dX5_tell_102 ?_
      refine lv_iload_n hx hb dX5_tell_105 rfl (lv_at hl 2 rfl) ?_
      obtain ⟨x28, g29, hf⟩ := bn1_e hf
      refine w_ald hx hb hK hw 3 rfl g29 dX5_tell_106 ?_
      obtain ⟨e0_, e1_⟩ := sm2 hf
      exact hret _ _ _ _ _ (by rw [← e1_]; exact hw) e0_ (Or.inl rfl) dX5_tell_107
    have hf := if_f c27 hf
    refine lv_tableOut (tgt := 108) hx hb dX5_tell_7 (w_out (n := 7) (by decide) (fun k hk => ?_)) (by decide) ?_
    · match k, hk with
      | 0, _ => exact c3
      | 1, _ => exact c6
      | 2, _ => exact c9
      | 3, _ => exact c12
      | 4, _ => exact c15
      | 5, _ => exact c20
      | 6, _ => exact c27
      | k + 7, hk => omega
    refine lv_bipush (v := (-102)) hx hb dX5_tell_108 (by decide) ?_
    obtain ⟨e0_, e1_⟩ := sm2 hf
    exact hret _ _ _ _ _ (by rw [← e1_]; exact hw) e0_ (Or.inl rfl) dX5_tell_110
  rw [hH, hlc] at goal
  exact goal
abbrev rmX5_foremost : Room := { frames := 1, cells := 0, slots := 0, locals := 21 }
theorem hd_X5_foremost : yX5_foremost.cls = RX5 ∧ yX5_foremost.cls ≠ "java/lang/invoke/MethodHandle" ∧ yX5_foremost.cls ≠ "java/lang/invoke/VarHandle" ∧ (parseMethodDescriptor yX5_foremost.desc).map (fun d => d.parameters.length) = some 0 := by decide +kernel
set_option maxHeartbeats 4000000 in
set_option maxRecDepth 100000 in
theorem k_X5_foremost (l : Launch) (D : va_G) (cA : ClassId) (tx ty : Nat) (o : Nat → Nat) (oT : St) (oB : St) (oC : St) (oG : St) (r : Int32) (hf : f_X5_foremost oT = some (r)) : Mi l yX5_foremost wsX5_foremost rmX5_foremost D cA (z_X tx ty) [.ref (o 13)] (wX5 o cA oT oB oC oG) r (wX5 o cA oT oB oC oG) := by
  refine Mi.of (cc := cX5_foremost) (maxL := 2) (ret := (some .int)) (plainFor_of_name (by decide)) rfl (Nat.le_of_ble_eq_true rfl) (Or.inl rfl) ?_
  intro p e s m below meth c A Q hx hb hml hown hts hK hA hZ hret ls hl hw
  replace hown : s.vm.findClass RX5 = some m.cls := hown
  have hl : lv_has ls 2 [(0, .ref (o 13))] := hl
  have hZo := z_X_ok tx ty
  have hi5 : ∀ w ∈ wsX50, w ∈ wsX5_foremost := fun w h => List.mem_cons_of_mem _ (List.mem_append_right _ h)
  have q0 := hts (.fieldLink RX5 51 "ArcRings$Table" "size" "I") (by decide +kernel)
  have h_L2 : ∀ (n : Nat) (v1 : Int32), f_X5_foremost_L2 oT n v1 = some (r) → ∀ (H : Heap) (locs : List Loc) (ls : Array Slot), Wd D A s.heap H locs (wX5 o cA oT oB oC oG) → lv_has ls 2 [(0, .ref (o 13)), (1, .int v1)] → W p l e rmX5_foremost s m ([.ref (o 13)] : List Value).toArray below meth c H locs 0 0 Q (F0 m 2 ls []) := by
    intro n
    induction n with
    | zero =>
      intro v1 hf
      have hf : none = some (r) := hf
      cases hf
    | succ n ih =>
      intro v1 hf H locs ls hw hl
      have hf := (f_X5_foremost_L2_s oT n v1).symm.trans hf
      refine lv_iload_n hx hb dX5_foremost_2 rfl (lv_at hl 1 rfl) ?_
      refine lv_aload_n hx hb dX5_foremost_3 rfl (lv_at hl 0 rfl) ?_
      refine w_get hx hb hts hi5 hown hK hw 0 rfl rfl 4 (by decide) q0 rfl (v := .int (oT.1 4)) rfl dX5_foremost_4 ?_
      refine lv_icmp_ge (tgt := 29) hx hb dX5_foremost_7 (by decide) (fun c1 => ?_) (fun c1 => ?_)
      · have hf := if_t c1 hf
        refine lv_iload_n hx hb dX5_foremost_29 rfl (lv_at hl 1 rfl) ?_
        have e0_ := sm1 hf
        exact hret _ _ _ _ _ hw e0_ (Or.inl rfl) dX5_foremost_30
      · have hf := if_f c1 hf
        refine lv_aload_n hx hb dX5_foremost_10 rfl (lv_at hl 0 rfl) ?_
        refine lv_iload_n hx hb dX5_foremost_11 rfl (lv_at hl 1 rfl) ?_
        obtain ⟨x2, g3, hf⟩ := bn1_e hf
        have fr := fr_X5_X5_oT_oB_oC_oG o cA oT oB oC oG oT oB oC oG
        refine go_i (run_v (As := [.int v1]) (rest := []) ⟨hx, hb, hml, hown, hts⟩ (k_X5_votesAt l D cA tx ty o oT oB oC oG v1 x2 g3 H.size) (cwV 1 hts gX5_foremost_X5_votesAt rfl rfl rfl hd_X5_votesAt ⟨Nat.le_of_ble_eq_true rfl, Nat.le_of_ble_eq_true rfl⟩) fr hw hK hA hZo hZ (ci := 5) rfl rfl rfl rfl hl.1 rfl (Nat.le_of_ble_eq_true rfl) dX5_foremost_12 ⟨Nat.zero_le _, Nat.zero_le _⟩) fr hw hA (fun H locs hw => ?_)
        refine lv_aload_n hx hb dX5_foremost_15 rfl (lv_at hl 0 rfl) ?_
        refine lv_iconst (v := 0) hx hb dX5_foremost_16 (by decide) ?_
        obtain ⟨x4, g5, hf⟩ := bn1_e hf
        have fr := fr_X5_X5_oT_oB_oC_oG o cA oT oB oC oG oT oB oC oG
        refine go_i (run_v (As := [.int 0]) (rest := [.int x2]) ⟨hx, hb, hml, hown, hts⟩ (k_X5_votesAt l D cA tx ty o oT oB oC oG 0 x4 g5 H.size) (cwV 1 hts gX5_foremost_X5_votesAt rfl rfl rfl hd_X5_votesAt ⟨Nat.le_of_ble_eq_true rfl, Nat.le_of_ble_eq_true rfl⟩) fr hw hK hA hZo hZ (ci := 5) rfl rfl rfl rfl hl.1 rfl (Nat.le_of_ble_eq_true rfl) dX5_foremost_17 ⟨Nat.zero_le _, Nat.zero_le _⟩) fr hw hA (fun H locs hw => ?_)
        refine lv_icmp_ne (tgt := 29) hx hb dX5_foremost_20 (by decide) (fun c6 => ?_) (fun c6 => ?_)
        · have hf := if_f c6 hf
          refine lv_iload_n hx hb dX5_foremost_29 rfl (lv_at hl 1 rfl) ?_
          have e0_ := sm1 hf
          exact hret _ _ _ _ _ hw e0_ (Or.inl rfl) dX5_foremost_30
        · have hf := if_t c6 hf
          refine lv_iinc (v := v1 + 1) (lv' := [(1, .int (v1 + 1)), (0, .ref (o 13))]) hx hb dX5_foremost_23 hl (k := 1) rfl (by rfl) (by decide) rfl (fun ls hl => ?_)
          refine lv_goto (tgt := 2) hx hb dX5_foremost_26 (by decide) ?_
          exact ih (v1 + 1) hf H locs ls hw (lv_sub hl [1, 0] rfl)
  unfold f_X5_foremost at hf
  obtain ⟨H, hH⟩ : ∃ H, H = s.heap := ⟨_, rfl⟩
  obtain ⟨locs, hlc⟩ : ∃ locs : List Loc, locs = [] := ⟨_, rfl⟩
  have hw : Wd D A s.heap H locs (wX5 o cA oT oB oC oG) := by rw [hH, hlc]; exact hw
  have goal : W p l e rmX5_foremost s m ([.ref (o 13)] : List Value).toArray below meth c H locs 0 0 Q (F0 m 0 ls []) := by
    clear hH hlc
    refine lv_iconst (v := 0) hx hb dX5_foremost_0 (by decide) ?_
    refine lv_istore_n (lv' := [(1, .int 0), (0, .ref (o 13))]) hx hb dX5_foremost_1 rfl hl (by decide) rfl (fun ls hl => ?_)
    exact h_L2  _ 0 hf H locs ls hw (lv_sub hl [1, 0] rfl)
  rw [hH, hlc] at goal
  exact goal
abbrev rmX5_total : Room := { frames := 2, cells := 0, slots := 0, locals := 42 }
theorem hd_X5_total : yX5_total.cls = RX5 ∧ yX5_total.cls ≠ "java/lang/invoke/MethodHandle" ∧ yX5_total.cls ≠ "java/lang/invoke/VarHandle" ∧ (parseMethodDescriptor yX5_total.desc).map (fun d => d.parameters.length) = some 1 := by decide +kernel
set_option maxHeartbeats 4000000 in
set_option maxRecDepth 100000 in
theorem k_X5_total (l : Launch) (D : va_G) (cA : ClassId) (tx ty : Nat) (o : Nat → Nat) (oT : St) (oB : St) (oC : St) (oG : St) (a1 : Int32) (r : Int32) (hf : f_X5_total oT a1 = some (r)) : Mi l yX5_total wsX5_total rmX5_total D cA (z_X tx ty) [.ref (o 13), .int a1] (wX5 o cA oT oB oC oG) r (wX5 o cA oT oB oC oG) := by
  refine Mi.of (cc := cX5_total) (maxL := 2) (ret := (some .int)) (plainFor_of_name (by decide)) rfl (Nat.le_of_ble_eq_true rfl) (Or.inl rfl) ?_
  intro p e s m below meth c A Q hx hb hml hown hts hK hA hZ hret ls hl hw
  replace hown : s.vm.findClass RX5 = some m.cls := hown
  have hl : lv_has ls 2 [(0, .ref (o 13)), (1, .int a1)] := hl
  have hZo := z_X_ok tx ty
  have hi5 : ∀ w ∈ wsX50, w ∈ wsX5_total := fun w h => List.mem_cons_of_mem _ (List.mem_append_right _ h)
  have q0 := hts (.fieldLink RX5 51 "ArcRings$Table" "size" "I") (by decide +kernel)
  have q1 := hts (.fieldLink RX5 40 "ArcRings$Table" "voting" "I") (by decide +kernel)
  have q2 := hts (.fieldLink RX5 67 "ArcRings$Table" "offLine" "I") (by decide +kernel)
  unfold f_X5_total at hf
  obtain ⟨H, hH⟩ : ∃ H, H = s.heap := ⟨_, rfl⟩
  obtain ⟨locs, hlc⟩ : ∃ locs : List Loc, locs = [] := ⟨_, rfl⟩
  have hw : Wd D A s.heap H locs (wX5 o cA oT oB oC oG) := by rw [hH, hlc]; exact hw
  have goal : W p l e rmX5_total s m ([.ref (o 13), .int a1] : List Value).toArray below meth c H locs 0 0 Q (F0 m 0 ls []) := by
    clear hH hlc
    refine lv_iload_n hx hb dX5_total_0 rfl (lv_at hl 1 rfl) ?_
    by_cases c1 : a1 = 0
    · have hf := if_t c1 hf
      refine lv_tableIn (tgt := 32) hx hb dX5_total_1 (by rw [c1]; decide) (by rw [c1]; decide) (by rw [c1]; rfl) (by decide) ?_
      refine lv_aload_n hx hb dX5_total_32 rfl (lv_at hl 0 rfl) ?_
      refine w_get hx hb hts hi5 hown hK hw 0 rfl rfl 4 (by decide) q0 rfl (v := .int (oT.1 4)) rfl dX5_total_33 ?_
      have e0_ := sm1 hf
      exact hret _ _ _ _ _ hw e0_ (Or.inl rfl) dX5_total_36
    have hf := if_f c1 hf
    by_cases c2 : a1 = 1
    · have hf := if_t c2 hf
      refine lv_tableIn (tgt := 37) hx hb dX5_total_1 (by rw [c2]; decide) (by rw [c2]; decide) (by rw [c2]; rfl) (by decide) ?_
      refine lv_aload_n hx hb dX5_total_37 rfl (lv_at hl 0 rfl) ?_
      refine w_get hx hb hts hi5 hown hK hw 0 rfl rfl 5 (by decide) q1 rfl (v := .int (oT.1 5)) rfl dX5_total_38 ?_
      have e0_ := sm1 hf
      exact hret _ _ _ _ _ hw e0_ (Or.inl rfl) dX5_total_41
    have hf := if_f c2 hf
    by_cases c3 : a1 = 2
    · have hf := if_t c3 hf
      refine lv_tableIn (tgt := 42) hx hb dX5_total_1 (by rw [c3]; decide) (by rw [c3]; decide) (by rw [c3]; rfl) (by decide) ?_
      refine lv_aload_n hx hb dX5_total_42 rfl (lv_at hl 0 rfl) ?_
      refine w_get hx hb hts hi5 hown hK hw 0 rfl rfl 6 (by decide) q2 rfl (v := .int (oT.1 6)) rfl dX5_total_43 ?_
      have e0_ := sm1 hf
      exact hret _ _ _ _ _ hw e0_ (Or.inl rfl) dX5_total_46
    have hf := if_f c3 hf
    by_cases c4 : a1 = 3
    · have hf := if_t c4 hf
      refine lv_tableIn (tgt := 47) hx hb dX5_total_1 (by rw [c4]; decide) (by rw [c4]; decide) (by rw [c4]; rfl) (by decide) ?_
      refine lv_aload_n hx hb dX5_total_47 rfl (lv_at hl 0 rfl) ?_
      obtain ⟨x5, g6, hf⟩ := bn1_e hf
      have fr := fr_X5_X5_oT_oB_oC_oG o cA oT oB oC oG oT oB oC oG
      refine go_i (run_v (As := []) (rest := []) ⟨hx, hb, hml, hown, hts⟩ (k_X5_foremost l D cA tx ty o oT oB oC oG x5 g6 H.size) (cwV 0 hts gX5_total_X5_foremost rfl rfl rfl hd_X5_foremost ⟨Nat.le_of_ble_eq_true rfl, Nat.le_of_ble_eq_true rfl⟩) fr hw hK hA hZo hZ (ci := 5) rfl rfl rfl rfl hl.1 rfl (Nat.le_of_ble_eq_true rfl) dX5_total_48 ⟨Nat.zero_le _, Nat.zero_le _⟩) fr hw hA (fun H locs hw => ?_)
      have e0_ := sm1 hf
      exact hret _ _ _ _ _ hw e0_ (Or.inl rfl) dX5_total_51
    have hf := if_f c4 hf
    refine lv_tableOut (tgt := 52) hx hb dX5_total_1 (w_out (n := 4) (by decide) (fun k hk => ?_)) (by decide) ?_
    · match k, hk with
      | 0, _ => exact c1
      | 1, _ => exact c2
      | 2, _ => exact c3
      | 3, _ => exact c4
      | k + 4, hk => omega
    refine lv_bipush (v := (-102)) hx hb dX5_total_52 (by decide) ?_
    have e0_ := sm1 hf
    exact hret _ _ _ _ _ hw e0_ (Or.inl rfl) dX5_total_54
  rw [hH, hlc] at goal
  exact goal
