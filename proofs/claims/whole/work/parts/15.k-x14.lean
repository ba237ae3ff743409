abbrev rmX1_lay : Room := { frames := 0, cells := 0, slots := 0, locals := 0 }
theorem hd_X1_lay : yX1_lay.cls = RX1 ∧ yX1_lay.cls ≠ "java/lang/invoke/MethodHandle" ∧ yX1_lay.cls ≠ "java/lang/invoke/VarHandle" ∧ (parseMethodDescriptor yX1_lay.desc).map (fun d => d.parameters.length) = some 3 := by decide +kernel
set_option maxHeartbeats 4000000 in
set_option maxRecDepth 100000 in
theorem k_X1_lay (l : Launch) (D : va_G) (cA : ClassId) (tx ty : Nat) (o : Nat → Nat) (oC : St) (oB : St) (a1 : Int32) (a2 : Int32) (a3 : Int32) (oC' : St) (hf : f_X1_lay oC oB a1 a2 a3 = some (oC')) : Mv l yX1_lay wsX1_lay rmX1_lay D cA (z_X tx ty) [.ref (o 11), .int a1, .int a2, .int a3] (wX1 o cA oC oB) (wX1 o cA oC' oB) := by
  refine Mv.of (cc := cX1_lay) (maxL := 12) (by decide) rfl (Nat.le_of_ble_eq_true rfl) ?_
  intro p e s m below meth c A Q hx hb hml hown hts hK hA hZ hret ls hl hw
  replace hown : s.vm.findClass RX1 = some m.cls := hown
  have hl : lv_has ls 12 [(0, .ref (o 11)), (1, .int a1), (2, .int a2), (3, .int a3)] := hl
  have hZo := z_X_ok tx ty
  have hi0 : ∀ w ∈ wsX00, w ∈ wsX1_lay := fun w h => List.mem_cons_of_mem _ (List.mem_append_right _ h)
  have hi1 : ∀ w ∈ wsX10, w ∈ wsX1_lay := fun w h => List.mem_cons_of_mem _ (List.mem_append_left _ (List.mem_append_right _ h))
  have q0 := hts (.fieldLink RX1 15 "ArcRings$Circle" "first" "I") (by decide +kernel)
  have q1 := hts (.fieldLink RX1 19 "ArcRings$Circle" "second" "I") (by decide +kernel)
  have q2 := hts (.fieldLink RX1 22 "ArcRings$Circle" "third" "I") (by decide +kernel)
  have q3 := hts (.fieldLink RX1 9 "ArcRings$Circle" "board" "LArcRings$Board;") (by decide +kernel)
  have q4 := hts (.fieldLink RX1 25 "ArcRings$Board" "xs" "[I") (by decide +kernel)
  have q5 := hts (.fieldLink RX1 31 "ArcRings$Board" "ys" "[I") (by decide +kernel)
  have q6 := hts (.fieldLink RX1 34 "ArcRings$Circle" "divisor" "I") (by decide +kernel)
  have q7 := hts (.fieldLink RX1 37 "ArcRings$Circle" "middleX" "I") (by decide +kernel)
  have q8 := hts (.fieldLink RX1 40 "ArcRings$Circle" "middleY" "I") (by decide +kernel)
  unfold f_X1_lay at hf
  obtain ⟨H, hH⟩ : ∃ H, H = s.heap := ⟨_, rfl⟩
  obtain ⟨locs, hlc⟩ : ∃ locs : List Loc, locs = [] := ⟨_, rfl⟩
  have hw : Wd D A s.heap H locs (wX1 o cA oC oB) := by rw [hH, hlc]; exact hw
  have goal : W p l e rmX1_lay s m ([.ref (o 11), .int a1, .int a2, .int a3] : List Value).toArray below meth c H locs 0 0 Q (F0 m 0 ls []) := by
    clear hH hlc
    refine lv_aload_n hx hb dX1_lay_0 rfl (lv_at hl 0 rfl) ?_
    refine lv_iload_n hx hb dX1_lay_1 rfl (lv_at hl 1 rfl) ?_
    refine w_put (ws' := (wX1 o cA ((sI oC 1 a1)) oB)) hx hb hts hi1 tyX1 tyX1_ok nmX1 hown hK hw 0 rfl rfl 1 (by decide) q0 rfl rfl rfl rfl (Nat.le_of_ble_eq_true rfl) rfl dX1_lay_2 (fun H locs hw => ?_)
    refine lv_aload_n hx hb dX1_lay_5 rfl (lv_at hl 0 rfl) ?_
    refine lv_iload_n hx hb dX1_lay_6 rfl (lv_at hl 2 rfl) ?_
    refine w_put (ws' := (wX1 o cA ((sI (sI oC 1 a1) 2 a2)) oB)) hx hb hts hi1 tyX1 tyX1_ok nmX1 hown hK hw 0 rfl rfl 2 (by decide) q1 rfl rfl rfl rfl (Nat.le_of_ble_eq_true rfl) rfl dX1_lay_7 (fun H locs hw => ?_)
    refine lv_aload_n hx hb dX1_lay_10 rfl (lv_at hl 0 rfl) ?_
    refine lv_iload_n hx hb dX1_lay_11 rfl (lv_at hl 3 rfl) ?_
    refine w_put (ws' := (wX1 o cA ((sI (sI (sI oC 1 a1) 2 a2) 3 a3)) oB)) hx hb hts hi1 tyX1 tyX1_ok nmX1 hown hK hw 0 rfl rfl 3 (by decide) q2 rfl rfl rfl rfl (Nat.le_of_ble_eq_true rfl) rfl dX1_lay_12 (fun H locs hw => ?_)
    refine lv_aload_n hx hb dX1_lay_15 rfl (lv_at hl 0 rfl) ?_
    refine w_get hx hb hts hi1 hown hK hw 0 rfl rfl 0 (by decide) q3 rfl (v := .ref (o 7)) rfl dX1_lay_16 ?_
    refine w_get hx hb hts hi0 hown hK hw 1 rfl rfl 8 (by decide) q4 rfl (v := .ref (o 8)) rfl dX1_lay_19 ?_
    refine lv_iload_n hx hb dX1_lay_22 rfl (lv_at hl 2 rfl) ?_
    obtain ⟨x1, g2, hf⟩ := bn1_e hf
    refine w_ald hx hb hK hw 2 rfl g2 dX1_lay_23 ?_
    refine lv_aload_n hx hb dX1_lay_24 rfl (lv_at hl 0 rfl) ?_
    refine w_get hx hb hts hi1 hown hK hw 0 rfl rfl 0 (by decide) q3 rfl (v := .ref (o 7)) rfl dX1_lay_25 ?_
    refine w_get hx hb hts hi0 hown hK hw 1 rfl rfl 8 (by decide) q4 rfl (v := .ref (o 8)) rfl dX1_lay_28 ?_
    refine lv_iload_n hx hb dX1_lay_31 rfl (lv_at hl 1 rfl) ?_
    obtain ⟨x3, g4, hf⟩ := bn1_e hf
    refine w_ald hx hb hK hw 2 rfl g4 dX1_lay_32 ?_
    refine lv_isub hx hb dX1_lay_33 ?_
    refine lv_istore (lv' := [(4, .int (x1 - x3)), (0, .ref (o 11)), (1, .int a1), (2, .int a2), (3, .int a3)]) hx hb dX1_lay_34 hl (by decide) rfl (fun ls hl => ?_)
    refine lv_aload_n hx hb dX1_lay_36 rfl (lv_at hl 1 rfl) ?_
    refine w_get hx hb hts hi1 hown hK hw 0 rfl rfl 0 (by decide) q3 rfl (v := .ref (o 7)) rfl dX1_lay_37 ?_
    refine w_get hx hb hts hi0 hown hK hw 1 rfl rfl 9 (by decide) q5 rfl (v := .ref (o 9)) rfl dX1_lay_40 ?_
    refine lv_iload_n hx hb dX1_lay_43 rfl (lv_at hl 3 rfl) ?_
    obtain ⟨x5, g6, hf⟩ := bn1_e hf
    refine w_ald hx hb hK hw 3 rfl g6 dX1_lay_44 ?_
    refine lv_aload_n hx hb dX1_lay_45 rfl (lv_at hl 1 rfl) ?_
    refine w_get hx hb hts hi1 hown hK hw 0 rfl rfl 0 (by decide) q3 rfl (v := .ref (o 7)) rfl dX1_lay_46 ?_
    refine w_get hx hb hts hi0 hown hK hw 1 rfl rfl 9 (by decide) q5 rfl (v := .ref (o 9)) rfl dX1_lay_49 ?_
    refine lv_iload_n hx hb dX1_lay_52 rfl (lv_at hl 2 rfl) ?_
    obtain ⟨x7, g8, hf⟩ := bn1_e hf
    refine w_ald hx hb hK hw 3 rfl g8 dX1_lay_53 ?_
    refine lv_isub hx hb dX1_lay_54 ?_
    refine lv_istore (lv' := [(5, .int (x5 - x7)), (4, .int (x1 - x3)), (0, .ref (o 11)), (1, .int a1), (2, .int a2), (3, .int a3)]) hx hb dX1_lay_55 hl (by decide) rfl (fun ls hl => ?_)
    refine lv_aload_n hx hb dX1_lay_57 rfl (lv_at hl 2 rfl) ?_
    refine w_get hx hb hts hi1 hown hK hw 0 rfl rfl 0 (by decide) q3 rfl (v := .ref (o 7)) rfl dX1_lay_58 ?_
    refine w_get hx hb hts hi0 hown hK hw 1 rfl rfl 8 (by decide) q4 rfl (v := .ref (o 8)) rfl dX1_lay_61 ?_
    refine lv_iload_n hx hb dX1_lay_64 rfl (lv_at hl 5 rfl) ?_
    obtain ⟨x9, g10, hf⟩ := bn1_e hf
    refine w_ald hx hb hK hw 2 rfl g10 dX1_lay_65 ?_
    refine lv_aload_n hx hb dX1_lay_66 rfl (lv_at hl 2 rfl) ?_
    refine w_get hx hb hts hi1 hown hK hw 0 rfl rfl 0 (by decide) q3 rfl (v := .ref (o 7)) rfl dX1_lay_67 ?_
    refine w_get hx hb hts hi0 hown hK hw 1 rfl rfl 8 (by decide) q4 rfl (v := .ref (o 8)) rfl dX1_lay_70 ?_
    refine lv_iload_n hx hb dX1_lay_73 rfl (lv_at hl 3 rfl) ?_
    obtain ⟨x11, g12, hf⟩ := bn1_e hf
    refine w_ald hx hb hK hw 2 rfl g12 dX1_lay_74 ?_
    refine lv_isub hx hb dX1_lay_75 ?_
    refine lv_istore (lv' := [(6, .int (x9 - x11)), (5, .int (x5 - x7)), (4, .int (x1 - x3)), (0, .ref (o 11)), (1, .int a1), (2, .int a2), (3, .int a3)]) hx hb dX1_lay_76 hl (by decide) rfl (fun ls hl => ?_)
    refine lv_aload_n hx hb dX1_lay_78 rfl (lv_at hl 3 rfl) ?_
    refine w_get hx hb hts hi1 hown hK hw 0 rfl rfl 0 (by decide) q3 rfl (v := .ref (o 7)) rfl dX1_lay_79 ?_
    refine w_get hx hb hts hi0 hown hK hw 1 rfl rfl 9 (by decide) q5 rfl (v := .ref (o 9)) rfl dX1_lay_82 ?_
    refine lv_iload_n hx hb dX1_lay_85 rfl (lv_at hl 6 rfl) ?_
    obtain ⟨x13, g14, hf⟩ := bn1_e hf
    refine w_ald hx hb hK hw 3 rfl g14 dX1_lay_86 ?_
    refine lv_aload_n hx hb dX1_lay_87 rfl (lv_at hl 3 rfl) ?_
    refine w_get hx hb hts hi1 hown hK hw 0 rfl rfl 0 (by decide) q3 rfl (v := .ref (o 7)) rfl dX1_lay_88 ?_
    refine w_get hx hb hts hi0 hown hK hw 1 rfl rfl 9 (by decide) q5 rfl (v := .ref (o 9)) rfl dX1_lay_91 ?_
    refine lv_iload_n hx hb dX1_lay_94 rfl (lv_at hl 4 rfl) ?_
    obtain ⟨x15, g16, hf⟩ := bn1_e hf
    refine w_ald hx hb hK hw 3 rfl g16 dX1_lay_95 ?_
    refine lv_isub hx hb dX1_lay_96 ?_
    refine lv_istore (lv' := [(7, .int (x13 - x15)), (6, .int (x9 - x11)), (5, .int (x5 - x7)), (4, .int (x1 - x3)), (0, .ref (o 11)), (1, .int a1), (2, .int a2), (3, .int a3)]) hx hb dX1_lay_97 hl (by decide) rfl (fun ls hl => ?_)
    refine lv_iload hx hb dX1_lay_99 (lv_at hl 3 rfl) ?_
    refine lv_iload hx hb dX1_lay_101 (lv_at hl 3 rfl) ?_
    refine lv_imul hx hb dX1_lay_103 ?_
    refine lv_iload hx hb dX1_lay_104 (lv_at hl 2 rfl) ?_
    refine lv_iload hx hb dX1_lay_106 (lv_at hl 2 rfl) ?_
    refine lv_imul hx hb dX1_lay_108 ?_
    refine lv_iadd hx hb dX1_lay_109 ?_
    obtain ⟨y17, e18, hf⟩ := bn1_e hf
    refine w_nmi (sm1 e18) ?_
    refine lv_istore (lv' := [(8, .int y17), (7, .int (x13 - x15)), (6, .int (x9 - x11)), (5, .int (x5 - x7)), (4, .int (x1 - x3)), (0, .ref (o 11)), (1, .int a1), (2, .int a2), (3, .int a3)]) hx hb dX1_lay_110 hl (by decide) rfl (fun ls hl => ?_)
    refine lv_iload hx hb dX1_lay_112 (lv_at hl 2 rfl) ?_
    refine lv_iload hx hb dX1_lay_114 (lv_at hl 2 rfl) ?_
    refine lv_imul hx hb dX1_lay_116 ?_
    refine lv_iload hx hb dX1_lay_117 (lv_at hl 1 rfl) ?_
    refine lv_iload hx hb dX1_lay_119 (lv_at hl 1 rfl) ?_
    refine lv_imul hx hb dX1_lay_121 ?_
    refine lv_iadd hx hb dX1_lay_122 ?_
    obtain ⟨y19, e20, hf⟩ := bn1_e hf
    refine w_nmi (sm1 e20) ?_
    refine lv_istore (lv' := [(9, .int y19), (8, .int y17), (7, .int (x13 - x15)), (6, .int (x9 - x11)), (5, .int (x5 - x7)), (4, .int (x1 - x3)), (0, .ref (o 11)), (1, .int a1), (2, .int a2), (3, .int a3)]) hx hb dX1_lay_123 hl (by decide) rfl (fun ls hl => ?_)
    refine lv_iload hx hb dX1_lay_125 (lv_at hl 5 rfl) ?_
    refine lv_iload hx hb dX1_lay_127 (lv_at hl 2 rfl) ?_
    refine lv_imul hx hb dX1_lay_129 ?_
    refine lv_iload hx hb dX1_lay_130 (lv_at hl 4 rfl) ?_
    refine lv_iload hx hb dX1_lay_132 (lv_at hl 3 rfl) ?_
    refine lv_imul hx hb dX1_lay_134 ?_
    refine lv_isub hx hb dX1_lay_135 ?_
    obtain ⟨y21, e22, hf⟩ := bn1_e hf
    refine w_nmi (sm1 e22) ?_
    refine lv_istore (lv' := [(10, .int y21), (9, .int y19), (8, .int y17), (7, .int (x13 - x15)), (6, .int (x9 - x11)), (5, .int (x5 - x7)), (4, .int (x1 - x3)), (0, .ref (o 11)), (1, .int a1), (2, .int a2), (3, .int a3)]) hx hb dX1_lay_136 hl (by decide) rfl (fun ls hl => ?_)
    refine lv_iload hx hb dX1_lay_138 (lv_at hl 0 rfl) ?_
    refine lv_if_ge (tgt := 147) hx hb dX1_lay_140 (by decide) (fun c23 => ?_) (fun c23 => ?_)
    · have hf := if_t c23 hf
      refine lv_iconst (v := 1) hx hb dX1_lay_147 (by decide) ?_
      refine lv_istore (lv' := [(11, .int 1), (10, .int y21), (9, .int y19), (8, .int y17), (7, .int (x13 - x15)), (6, .int (x9 - x11)), (5, .int (x5 - x7)), (4, .int (x1 - x3)), (0, .ref (o 11)), (1, .int a1), (2, .int a2), (3, .int a3)]) hx hb dX1_lay_148 hl (by decide) rfl (fun ls hl => ?_)
      refine lv_aload_n hx hb dX1_lay_150 rfl (lv_at hl 8 rfl) ?_
      refine lv_iconst (v := 2) hx hb dX1_lay_151 (by decide) ?_
      refine lv_iload hx hb dX1_lay_152 (lv_at hl 1 rfl) ?_
      refine lv_imul hx hb dX1_lay_154 ?_
      refine lv_iload hx hb dX1_lay_155 (lv_at hl 0 rfl) ?_
      refine lv_imul hx hb dX1_lay_157 ?_
      obtain ⟨y24, e25, hf⟩ := bn1_e hf
      refine w_nmi (sm1 e25) ?_
      refine w_put (ws' := (wX1 o cA ((sI (sI (sI (sI oC 1 a1) 2 a2) 3 a3) 4 y24)) oB)) hx hb hts hi1 tyX1 tyX1_ok nmX1 hown hK hw 0 rfl rfl 4 (by decide) q6 rfl rfl rfl rfl (Nat.le_of_ble_eq_true rfl) rfl dX1_lay_158 (fun H locs hw => ?_)
      refine lv_aload_n hx hb dX1_lay_161 rfl (lv_at hl 8 rfl) ?_
      refine lv_aload_n hx hb dX1_lay_162 rfl (lv_at hl 8 rfl) ?_
      refine w_get hx hb hts hi1 hown hK hw 0 rfl rfl 4 (by decide) q6 rfl (v := .int y24) rfl dX1_lay_163 ?_
      refine lv_aload_n hx hb dX1_lay_166 rfl (lv_at hl 8 rfl) ?_
      refine w_get hx hb hts hi1 hown hK hw 0 rfl rfl 0 (by decide) q3 rfl (v := .ref (o 7)) rfl dX1_lay_167 ?_
      refine w_get hx hb hts hi0 hown hK hw 1 rfl rfl 8 (by decide) q4 rfl (v := .ref (o 8)) rfl dX1_lay_170 ?_
      refine lv_iload_n hx hb dX1_lay_173 rfl (lv_at hl 9 rfl) ?_
      obtain ⟨x26, g27, hf⟩ := bn1_e hf
      refine w_ald hx hb hK hw 2 rfl g27 dX1_lay_174 ?_
      refine lv_imul hx hb dX1_lay_175 ?_
      refine lv_iload hx hb dX1_lay_176 (lv_at hl 0 rfl) ?_
      refine lv_iload hx hb dX1_lay_178 (lv_at hl 4 rfl) ?_
      refine lv_iload hx hb dX1_lay_180 (lv_at hl 3 rfl) ?_
      refine lv_imul hx hb dX1_lay_182 ?_
      refine lv_iload hx hb dX1_lay_183 (lv_at hl 6 rfl) ?_
      refine lv_iload hx hb dX1_lay_185 (lv_at hl 2 rfl) ?_
      refine lv_imul hx hb dX1_lay_187 ?_
      refine lv_isub hx hb dX1_lay_188 ?_
      refine lv_imul hx hb dX1_lay_189 ?_
      refine lv_iadd hx hb dX1_lay_190 ?_
      obtain ⟨y28, e29, hf⟩ := bn1_e hf
      refine w_nmi (sm1 e29) ?_
      refine w_put (ws' := (wX1 o cA ((sI (sI (sI (sI (sI oC 1 a1) 2 a2) 3 a3) 4 y24) 5 y28)) oB)) hx hb hts hi1 tyX1 tyX1_ok nmX1 hown hK hw 0 rfl rfl 5 (by decide) q7 rfl rfl rfl rfl (Nat.le_of_ble_eq_true rfl) rfl dX1_lay_191 (fun H locs hw => ?_)
      refine lv_aload_n hx hb dX1_lay_194 rfl (lv_at hl 8 rfl) ?_
      refine lv_aload_n hx hb dX1_lay_195 rfl (lv_at hl 8 rfl) ?_
      refine w_get hx hb hts hi1 hown hK hw 0 rfl rfl 4 (by decide) q6 rfl (v := .int y24) rfl dX1_lay_196 ?_
      refine lv_aload_n hx hb dX1_lay_199 rfl (lv_at hl 8 rfl) ?_
      refine w_get hx hb hts hi1 hown hK hw 0 rfl rfl 0 (by decide) q3 rfl (v := .ref (o 7)) rfl dX1_lay_200 ?_
      refine w_get hx hb hts hi0 hown hK hw 1 rfl rfl 9 (by decide) q5 rfl (v := .ref (o 9)) rfl dX1_lay_203 ?_
      refine lv_iload_n hx hb dX1_lay_206 rfl (lv_at hl 9 rfl) ?_
      obtain ⟨x30, g31, hf⟩ := bn1_e hf
      refine w_ald hx hb hK hw 3 rfl g31 dX1_lay_207 ?_
      refine lv_imul hx hb dX1_lay_208 ?_
      refine lv_iload hx hb dX1_lay_209 (lv_at hl 0 rfl) ?_
      refine lv_iload hx hb dX1_lay_211 (lv_at hl 7 rfl) ?_
      refine lv_iload hx hb dX1_lay_213 (lv_at hl 2 rfl) ?_
      refine lv_imul hx hb dX1_lay_215 ?_
      refine lv_iload hx hb dX1_lay_216 (lv_at hl 5 rfl) ?_
      refine lv_iload hx hb dX1_lay_218 (lv_at hl 3 rfl) ?_
      refine lv_imul hx hb dX1_lay_220 ?_
      refine lv_isub hx hb dX1_lay_221 ?_
      refine lv_imul hx hb dX1_lay_222 ?_
      refine lv_iadd hx hb dX1_lay_223 ?_
      obtain ⟨y32, e33, hf⟩ := bn1_e hf
      refine w_nmi (sm1 e33) ?_
      refine w_put (ws' := (wX1 o cA ((sI (sI (sI (sI (sI (sI oC 1 a1) 2 a2) 3 a3) 4 y24) 5 y28) 6 y32)) oB)) hx hb hts hi1 tyX1 tyX1_ok nmX1 hown hK hw 0 rfl rfl 6 (by decide) q8 rfl rfl rfl rfl (Nat.le_of_ble_eq_true rfl) rfl dX1_lay_224 (fun H locs hw => ?_)
      have e0_ := sm1 hf
      exact hret _ _ _ _ (by rw [← e0_]; exact hw) dX1_lay_227
    · have hf := if_f c23 hf
      refine lv_iconst (v := (-1)) hx hb dX1_lay_143 (by decide) ?_
      refine lv_goto (tgt := 148) hx hb dX1_lay_144 (by decide) ?_
      refine lv_istore (lv' := [(11, .int ((-1))), (10, .int y21), (9, .int y19), (8, .int y17), (7, .int (x13 - x15)), (6, .int (x9 - x11)), (5, .int (x5 - x7)), (4, .int (x1 - x3)), (0, .ref (o 11)), (1, .int a1), (2, .int a2), (3, .int a3)]) hx hb dX1_lay_148 hl (by decide) rfl (fun ls hl => ?_)
      refine lv_aload_n hx hb dX1_lay_150 rfl (lv_at hl 8 rfl) ?_
      refine lv_iconst (v := 2) hx hb dX1_lay_151 (by decide) ?_
      refine lv_iload hx hb dX1_lay_152 (lv_at hl 1 rfl) ?_
      refine lv_imul hx hb dX1_lay_154 ?_
      refine lv_iload hx hb dX1_lay_155 (lv_at hl 0 rfl) ?_
      refine lv_imul hx hb dX1_lay_157 ?_
      obtain ⟨y34, e35, hf⟩ := bn1_e hf
      refine w_nmi (sm1 e35) ?_
      refine w_put (ws' := (wX1 o cA ((sI (sI (sI (sI oC 1 a1) 2 a2) 3 a3) 4 y34)) oB)) hx hb hts hi1 tyX1 tyX1_ok nmX1 hown hK hw 0 rfl rfl 4 (by decide) q6 rfl rfl rfl rfl (Nat.le_of_ble_eq_true rfl) rfl dX1_lay_158 (fun H locs hw => ?_)
      refine lv_aload_n hx hb dX1_lay_161 rfl (lv_at hl 8 rfl) ?_
      refine lv_aload_n hx hb dX1_lay_162 rfl (lv_at hl 8 rfl) ?_
      refine w_get hx hb hts hi1 hown hK hw 0 rfl rfl 4 (by decide) q6 rfl (v := .int y34) rfl dX1_lay_163 ?_
      refine lv_aload_n hx hb dX1_lay_166 rfl (lv_at hl 8 rfl) ?_
      refine w_get hx hb hts hi1 hown hK hw 0 rfl rfl 0 (by decide) q3 rfl (v := .ref (o 7)) rfl dX1_lay_167 ?_
      refine w_get hx hb hts hi0 hown hK hw 1 rfl rfl 8 (by decide) q4 rfl (v := .ref (o 8)) rfl dX1_lay_170 ?_
      refine lv_iload_n hx hb dX1_lay_173 rfl (lv_at hl 9 rfl) ?_
      obtain ⟨x36, g37, hf⟩ := bn1_e hf
      refine w_ald hx hb hK hw 2 rfl g37 dX1_lay_174 ?_
      refine lv_imul hx hb dX1_lay_175 ?_
      refine lv_iload hx hb dX1_lay_176 (lv_at hl 0 rfl) ?_
      refine lv_iload hx hb dX1_lay_178 (lv_at hl 4 rfl) ?_
      refine lv_iload hx hb dX1_lay_180 (lv_at hl 3 rfl) ?_
      refine lv_imul hx hb dX1_lay_182 ?_
      refine lv_iload hx hb dX1_lay_183 (lv_at hl 6 rfl) ?_
      refine lv_iload hx hb dX1_lay_185 (lv_at hl 2 rfl) ?_
      refine lv_imul hx hb dX1_lay_187 ?_
      refine lv_isub hx hb dX1_lay_188 ?_
      refine lv_imul hx hb dX1_lay_189 ?_
      refine lv_iadd hx hb dX1_lay_190 ?_
      obtain ⟨y38, e39, hf⟩ := bn1_e hf
      refine w_nmi (sm1 e39) ?_
      refine w_put (ws' := (wX1 o cA ((sI (sI (sI (sI (sI oC 1 a1) 2 a2) 3 a3) 4 y34) 5 y38)) oB)) hx hb hts hi1 tyX1 tyX1_ok nmX1 hown hK hw 0 rfl rfl 5 (by decide) q7 rfl rfl rfl rfl (Nat.le_of_ble_eq_true rfl) rfl dX1_lay_191 (fun H locs hw => ?_)
      refine lv_aload_n hx hb dX1_lay_194 rfl (lv_at hl 8 rfl) ?_
      refine lv_aload_n hx hb dX1_lay_195 rfl (lv_at hl 8 rfl) ?_
      refine w_get hx hb hts hi1 hown hK hw 0 rfl rfl 4 (by decide) q6 rfl (v := .int y34) rfl dX1_lay_196 ?_
      refine lv_aload_n hx hb dX1_lay_199 rfl (lv_at hl 8 rfl) ?_
      refine w_get hx hb hts hi1 hown hK hw 0 rfl rfl 0 (by decide) q3 rfl (v := .ref (o 7)) rfl dX1_lay_200 ?_
      refine w_get hx hb hts hi0 hown hK hw 1 rfl rfl 9 (by decide) q5 rfl (v := .ref (o 9)) rfl dX1_lay_203 ?_
      refine lv_iload_n hx hb dX1_lay_206 rfl (lv_at hl 9 rfl) ?_
      obtain ⟨x40, g41, hf⟩ := bn1_e hf
      refine w_ald hx hb hK hw 3 rfl g41 dX1_lay_207 ?_
      refine lv_imul hx hb dX1_lay_208 ?_
      refine lv_iload hx hb dX1_lay_209 (lv_at hl 0 rfl) ?_
      refine lv_iload hx hb dX1_lay_211 (lv_at hl 7 rfl) ?_
      refine lv_iload hx hb dX1_lay_213 (lv_at hl 2 rfl) ?_
      refine lv_imul hx hb dX1_lay_215 ?_
      refine lv_iload hx hb dX1_lay_216 (lv_at hl 5 rfl) ?_
      refine lv_iload hx hb dX1_lay_218 (lv_at hl 3 rfl) ?_
      refine lv_imul hx hb dX1_lay_220 ?_
      refine lv_isub hx hb dX1_lay_221 ?_
      refine lv_imul hx hb dX1_lay_222 ?_
      refine lv_iadd hx hb dX1_lay_223 ?_
      obtain ⟨y42, e43, hf⟩ := bn1_e hf
      refine w_nmi (sm1 e43) ?_
      refine w_put (ws' := (wX1 o cA ((sI (sI (sI (sI (sI (sI oC 1 a1) 2 a2) 3 a3) 4 y34) 5 y38) 6 y42)) oB)) hx hb hts hi1 tyX1 tyX1_ok nmX1 hown hK hw 0 rfl rfl 6 (by decide) q8 rfl rfl rfl rfl (Nat.le_of_ble_eq_true rfl) rfl dX1_lay_224 (fun H locs hw => ?_)
      have e0_ := sm1 hf
      exact hret _ _ _ _ (by rw [← e0_]; exact hw) dX1_lay_227
  rw [hH, hlc] at goal
  exact goal
abbrev rmX1_isLine : Room := { frames := 0, cells := 0, slots := 0, locals := 0 }
theorem hd_X1_isLine : yX1_isLine.cls = RX1 ∧ yX1_isLine.cls ≠ "java/lang/invoke/MethodHandle" ∧ yX1_isLine.cls ≠ "java/lang/invoke/VarHandle" ∧ (parseMethodDescriptor yX1_isLine.desc).map (fun d => d.parameters.length) = some 0 := by decide +kernel
set_option maxHeartbeats 4000000 in
set_option maxRecDepth 100000 in
theorem k_X1_isLine (l : Launch) (D : va_G) (cA : ClassId) (tx ty : Nat) (o : Nat → Nat) (oC : St) (oB : St) (r : Int32) (hf : f_X1_isLine oC = some (r)) : Mi l yX1_isLine wsX1_isLine rmX1_isLine D cA (z_X tx ty) [.ref (o 11)] (wX1 o cA oC oB) r (wX1 o cA oC oB) := by
  refine Mi.of (cc := cX1_isLine) (maxL := 1) (ret := (some .boolean)) (plainFor_of_name (by decide)) rfl (Nat.le_of_ble_eq_true rfl) (Or.inr rfl) ?_
  intro p e s m below meth c A Q hx hb hml hown hts hK hA hZ hret ls hl hw
  replace hown : s.vm.findClass RX1 = some m.cls := hown
  have hl : lv_has ls 1 [(0, .ref (o 11))] := hl
  have hZo := z_X_ok tx ty
  have hi1 : ∀ w ∈ wsX10, w ∈ wsX1_isLine := fun w h => List.mem_cons_of_mem _ (List.mem_append_right _ h)
  have q0 := hts (.fieldLink RX1 34 "ArcRings$Circle" "divisor" "I") (by decide +kernel)
  unfold f_X1_isLine at hf
  obtain ⟨H, hH⟩ : ∃ H, H = s.heap := ⟨_, rfl⟩
  obtain ⟨locs, hlc⟩ : ∃ locs : List Loc, locs = [] := ⟨_, rfl⟩
  have hw : Wd D A s.heap H locs (wX1 o cA oC oB) := by rw [hH, hlc]; exact hw
  have goal : W p l e rmX1_isLine s m ([.ref (o 11)] : List Value).toArray below meth c H locs 0 0 Q (F0 m 0 ls []) := by
    clear hH hlc
    refine lv_aload_n hx hb dX1_isLine_0 rfl (lv_at hl 0 rfl) ?_
    refine w_get hx hb hts hi1 hown hK hw 0 rfl rfl 4 (by decide) q0 rfl (v := .int (oC.1 4)) rfl dX1_isLine_1 ?_
    refine lv_if_ne (tgt := 11) hx hb dX1_isLine_4 (by decide) (fun c1 => ?_) (fun c1 => ?_)
    · have hf := if_f c1 hf
      refine lv_iconst (v := 0) hx hb dX1_isLine_11 (by decide) ?_
      have e0_ := sm1 hf
      exact hret _ _ _ _ _ hw e0_ (Or.inr (Or.inl rfl)) dX1_isLine_12
    · have hf := if_t c1 hf
      refine lv_iconst (v := 1) hx hb dX1_isLine_7 (by decide) ?_
      refine lv_goto (tgt := 12) hx hb dX1_isLine_8 (by decide) ?_
      have e0_ := sm1 hf
      exact hret _ _ _ _ _ hw e0_ (Or.inr (Or.inr rfl)) dX1_isLine_12
  rw [hH, hlc] at goal
  exact goal
abbrev rmX1_cellX : Room := { frames := 1, cells := 0, slots := 0, locals := 22 }
theorem hd_X1_cellX : yX1_cellX.cls = RX1 ∧ yX1_cellX.cls ≠ "java/lang/invoke/MethodHandle" ∧ yX1_cellX.cls ≠ "java/lang/invoke/VarHandle" ∧ (parseMethodDescriptor yX1_cellX.desc).map (fun d => d.parameters.length) = some 0 := by decide +kernel
set_option maxHeartbeats 4000000 in
set_option maxRecDepth 100000 in
theorem k_X1_cellX (l : Launch) (D : va_G) (cA : ClassId) (tx ty : Nat) (o : Nat → Nat) (oC : St) (oB : St) (r : Int32) (hf : f_X1_cellX oC = some (r)) : Mi l yX1_cellX wsX1_cellX rmX1_cellX D cA (z_X tx ty) [.ref (o 11)] (wX1 o cA oC oB) r (wX1 o cA oC oB) := by
  refine Mi.of (cc := cX1_cellX) (maxL := 1) (ret := (some .int)) (plainFor_of_name (by decide)) rfl (Nat.le_of_ble_eq_true rfl) (Or.inl rfl) ?_
  intro p e s m below meth c A Q hx hb hml hown hts hK hA hZ hret ls hl hw
  replace hown : s.vm.findClass RX1 = some m.cls := hown
  have hl : lv_has ls 1 [(0, .ref (o 11))] := hl
  have hZo := z_X_ok tx ty
  have hi1 : ∀ w ∈ wsX10, w ∈ wsX1_cellX := fun w h => List.mem_cons_of_mem _ (List.mem_append_right _ h)
  have q0 := hts (.fieldLink RX1 34 "ArcRings$Circle" "divisor" "I") (by decide +kernel)
  have q1 := hts (.fieldLink RX1 37 "ArcRings$Circle" "middleX" "I") (by decide +kernel)
  unfold f_X1_cellX at hf
  obtain ⟨H, hH⟩ : ∃ H, H = s.heap := ⟨_, rfl⟩
  obtain ⟨locs, hlc⟩ : ∃ locs : List Loc, locs = [] := ⟨_, rfl⟩
  have hw : Wd D A s.heap H locs (wX1 o cA oC oB) := by rw [hH, hlc]; exact hw
  have goal : W p l e rmX1_cellX s m ([.ref (o 11)] : List Value).toArray below meth c H locs 0 0 Q (F0 m 0 ls []) := by
    clear hH hlc
    refine lv_aload_n hx hb dX1_cellX_0 rfl (lv_at hl 0 rfl) ?_
    refine w_get hx hb hts hi1 hown hK hw 0 rfl rfl 4 (by decide) q0 rfl (v := .int (oC.1 4)) rfl dX1_cellX_1 ?_
    refine lv_if_ne (tgt := 11) hx hb dX1_cellX_4 (by decide) (fun c1 => ?_) (fun c1 => ?_)
    · have hf := if_f c1 hf
      refine lv_aload_n hx hb dX1_cellX_11 rfl (lv_at hl 0 rfl) ?_
      refine w_get hx hb hts hi1 hown hK hw 0 rfl rfl 5 (by decide) q1 rfl (v := .int (oC.1 5)) rfl dX1_cellX_12 ?_
      refine lv_aload_n hx hb dX1_cellX_15 rfl (lv_at hl 0 rfl) ?_
      refine w_get hx hb hts hi1 hown hK hw 0 rfl rfl 4 (by decide) q0 rfl (v := .int (oC.1 4)) rfl dX1_cellX_16 ?_
      obtain ⟨x2, g3, hf⟩ := bn1_e hf
      have fr := fr_X1_S o cA oC oB
      refine go_i (run_s (As := [.int (oC.1 5), .int (oC.1 4)]) (rest := []) ⟨hx, hb, hml, hown, hts⟩ (k_J9_floorDiv_7cf53 l D cA (oC.1 5) (oC.1 4) x2 g3 H.size) (va_cwS 2 hts gX1_cellX_J9_floorDiv_7cf53 rfl rfl rfl hd_J9_floorDiv_7cf53 ⟨Nat.le_of_ble_eq_true rfl, Nat.le_of_ble_eq_true rfl⟩) fr hw hK hA rfl hl.1 rfl (Nat.le_of_ble_eq_true rfl) dX1_cellX_19 ⟨Nat.zero_le _, Nat.zero_le _⟩) fr hw hA (fun H locs hw => ?_)
      have e0_ := sm1 hf
      exact hret _ _ _ _ _ hw e0_ (Or.inl rfl) dX1_cellX_22
    · have hf := if_t c1 hf
      refine lv_iconst (v := 0) hx hb dX1_cellX_7 (by decide) ?_
      refine lv_goto (tgt := 22) hx hb dX1_cellX_8 (by decide) ?_
      have e0_ := sm1 hf
      exact hret _ _ _ _ _ hw e0_ (Or.inl rfl) dX1_cellX_22
  rw [hH, hlc] at goal
  exact goal
abbrev rmX1_cellY : Room := { frames := 1, cells := 0, slots := 0, locals := 22 }
theorem hd_X1_cellY : yX1_cellY.cls = RX1 ∧ yX1_cellY.cls ≠ "java/lang/invoke/MethodHandle" ∧ yX1_cellY.cls ≠ "java/lang/invoke/VarHandle" ∧ (parseMethodDescriptor yX1_cellY.desc).map (fun d => d.parameters.length) = some 0 := by decide +kernel
set_option maxHeartbeats 4000000 in
set_option maxRecDepth 100000 in
theorem k_X1_cellY (l : Launch) (D : va_G) (cA : ClassId) (tx ty : Nat) (o : Nat → Nat) (oC : St) (oB : St) (r : Int32) (hf : f_X1_cellY oC = some (r)) : Mi l yX1_cellY wsX1_cellY rmX1_cellY D cA (z_X tx ty) [.ref (o 11)] (wX1 o cA oC oB) r (wX1 o cA oC oB) := by
  refine Mi.of (cc := cX1_cellY) (maxL := 1) (ret := (some .int)) (plainFor_of_name (by decide)) rfl (Nat.le_of_ble_eq_true rfl) (Or.inl rfl) ?_
  intro p e s m below meth c A Q hx hb hml hown hts hK hA hZ hret ls hl hw
  replace hown : s.vm.findClass RX1 = some m.cls := hown
  have hl : lv_has ls 1 [(0, .ref (o 11))] := hl
  have hZo := z_X_ok tx ty
  have hi1 : ∀ w ∈ wsX10, w ∈ wsX1_cellY := fun w h => List.mem_cons_of_mem _ (List.mem_append_right _ h)
  have q0 := hts (.fieldLink RX1 34 "ArcRings$Circle" "divisor" "I") (by decide +kernel)
  have q1 := hts (.fieldLink RX1 40 "ArcRings$Circle" "middleY" "I") (by decide +kernel)
  unfold f_X1_cellY at hf
  obtain ⟨H, hH⟩ : ∃ H, H = s.heap := ⟨_, rfl⟩
  obtain ⟨locs, hlc⟩ : ∃ locs : List Loc, locs = [] := ⟨_, rfl⟩
  have hw : Wd D A s.heap H locs (wX1 o cA oC oB) := by rw [hH, hlc]; exact hw
  have goal : W p l e rmX1_cellY s m ([.ref (o 11)] : List Value).toArray below meth c H locs 0 0 Q (F0 m 0 ls []) := by
    clear hH hlc
    refine lv_aload_n hx hb dX1_cellY_0 rfl (lv_at hl 0 rfl) ?_
    refine w_get hx hb hts hi1 hown hK hw 0 rfl rfl 4 (by decide) q0 rfl (v := .int (oC.1 4)) rfl dX1_cellY_1 ?_
    refine lv_if_ne (tgt := 11) hx hb dX1_cellY_4 (by decide) (fun c1 => ?_) (fun c1 => ?_)
    · have hf := if_f c1 hf
      refine lv_aload_n hx hb dX1_cellY_11 rfl (lv_at hl 0 rfl) ?_
      refine w_get hx hb hts hi1 hown hK hw 0 rfl rfl 6 (by decide) q1 rfl (v := .int (oC.1 6)) rfl dX1_cellY_12 ?_
      refine lv_aload_n hx hb dX1_cellY_15 rfl (lv_at hl 0 rfl) ?_
      refine w_get hx hb hts hi1 hown hK hw 0 rfl rfl 4 (by decide) q0 rfl (v := .int (oC.1 4)) rfl dX1_cellY_16 ?_
      obtain ⟨x2, g3, hf⟩ := bn1_e hf
      have fr := fr_X1_S o cA oC oB
      refine go_i (run_s (As := [.int (oC.1 6), .int (oC.1 4)]) (rest := []) ⟨hx, hb, hml, hown, hts⟩ (k_J9_floorDiv_7cf53 l D cA (oC.1 6) (oC.1 4) x2 g3 H.size) (va_cwS 2 hts gX1_cellY_J9_floorDiv_7cf53 rfl rfl rfl hd_J9_floorDiv_7cf53 ⟨Nat.le_of_ble_eq_true rfl, Nat.le_of_ble_eq_true rfl⟩) fr hw hK hA rfl hl.1 rfl (Nat.le_of_ble_eq_true rfl) dX1_cellY_19 ⟨Nat.zero_le _, Nat.zero_le _⟩) fr hw hA (fun H locs hw => ?_)
      have e0_ := sm1 hf
      exact hret _ _ _ _ _ hw e0_ (Or.inl rfl) dX1_cellY_22
    · have hf := if_t c1 hf
      refine lv_iconst (v := 0) hx hb dX1_cellY_7 (by decide) ?_
      refine lv_goto (tgt := 22) hx hb dX1_cellY_8 (by decide) ?_
      have e0_ := sm1 hf
      exact hret _ _ _ _ _ hw e0_ (Or.inl rfl) dX1_cellY_22
  rw [hH, hlc] at goal
  exact goal
abbrev rmX1_agreeing : Room := { frames := 1, cells := 0, slots := 0, locals := 29 }
theorem hd_X1_agreeing : yX1_agreeing.cls = RX1 ∧ yX1_agreeing.cls ≠ "java/lang/invoke/MethodHandle" ∧ yX1_agreeing.cls ≠ "java/lang/invoke/VarHandle" ∧ (parseMethodDescriptor yX1_agreeing.desc).map (fun d => d.parameters.length) = some 0 := by decide +kernel
set_option maxHeartbeats 4000000 in
set_option maxRecDepth 100000 in
theorem k_X1_agreeing (l : Launch) (D : va_G) (cA : ClassId) (tx ty : Nat) (o : Nat → Nat) (oC : St) (oB : St) (r : Int32) (hf : f_X1_agreeing oC oB = some (r)) : Mi l yX1_agreeing wsX1_agreeing rmX1_agreeing D cA (z_X tx ty) [.ref (o 11)] (wX1 o cA oC oB) r (wX1 o cA oC oB) := by
  refine Mi.of (cc := cX1_agreeing) (maxL := 2) (ret := (some .int)) (plainFor_of_name (by decide)) rfl (Nat.le_of_ble_eq_true rfl) (Or.inl rfl) ?_
  intro p e s m below meth c A Q hx hb hml hown hts hK hA hZ hret ls hl hw
  replace hown : s.vm.findClass RX1 = some m.cls := hown
  have hl : lv_has ls 2 [(0, .ref (o 11))] := hl
  have hZo := z_X_ok tx ty
  have hi1 : ∀ w ∈ wsX10, w ∈ wsX1_agreeing := fun w h => List.mem_cons_of_mem _ (List.mem_append_left _ (List.mem_append_right _ h))
  have q0 := hts (.fieldLink RX1 9 "ArcRings$Circle" "board" "LArcRings$Board;") (by decide +kernel)
  have q1 := hts (.fieldLink RX1 15 "ArcRings$Circle" "first" "I") (by decide +kernel)
  have q2 := hts (.fieldLink RX1 37 "ArcRings$Circle" "middleX" "I") (by decide +kernel)
  have q3 := hts (.fieldLink RX1 40 "ArcRings$Circle" "middleY" "I") (by decide +kernel)
  have q4 := hts (.fieldLink RX1 34 "ArcRings$Circle" "divisor" "I") (by decide +kernel)
  have q5 := hts (.fieldLink RX1 19 "ArcRings$Circle" "second" "I") (by decide +kernel)
  have q6 := hts (.fieldLink RX1 22 "ArcRings$Circle" "third" "I") (by decide +kernel)
  unfold f_X1_agreeing at hf
  obtain ⟨H, hH⟩ : ∃ H, H = s.heap := ⟨_, rfl⟩
  obtain ⟨locs, hlc⟩ : ∃ locs : List Loc, locs = [] := ⟨_, rfl⟩
  have hw : Wd D A s.heap H locs (wX1 o cA oC oB) := by rw [hH, hlc]; exact hw
  have goal : W p l e rmX1_agreeing s m ([.ref (o 11)] : List Value).toArray below meth c H locs 0 0 Q (F0 m 0 ls []) := by
    clear hH hlc
    refine lv_aload_n hx hb dX1_agreeing_0 rfl (lv_at hl 0 rfl) ?_
    refine w_get hx hb hts hi1 hown hK hw 0 rfl rfl 0 (by decide) q0 rfl (v := .ref (o 7)) rfl dX1_agreeing_1 ?_
    refine lv_aload_n hx hb dX1_agreeing_4 rfl (lv_at hl 0 rfl) ?_
    refine w_get hx hb hts hi1 hown hK hw 0 rfl rfl 1 (by decide) q1 rfl (v := .int (oC.1 1)) rfl dX1_agreeing_5 ?_
    refine lv_aload_n hx hb dX1_agreeing_8 rfl (lv_at hl 0 rfl) ?_
    refine w_get hx hb hts hi1 hown hK hw 0 rfl rfl 5 (by decide) q2 rfl (v := .int (oC.1 5)) rfl dX1_agreeing_9 ?_
    refine lv_aload_n hx hb dX1_agreeing_12 rfl (lv_at hl 0 rfl) ?_
    refine w_get hx hb hts hi1 hown hK hw 0 rfl rfl 6 (by decide) q3 rfl (v := .int (oC.1 6)) rfl dX1_agreeing_13 ?_
    refine lv_aload_n hx hb dX1_agreeing_16 rfl (lv_at hl 0 rfl) ?_
    refine w_get hx hb hts hi1 hown hK hw 0 rfl rfl 4 (by decide) q4 rfl (v := .int (oC.1 4)) rfl dX1_agreeing_17 ?_
    obtain ⟨x1, g2, hf⟩ := bn1_e hf
    have fr := fr_X1_X0_oB o cA oC oB oB
    refine go_i (run_v (As := [.int (oC.1 1), .int (oC.1 5), .int (oC.1 6), .int (oC.1 4)]) (rest := []) ⟨hx, hb, hml, hown, hts⟩ (k_X0_agrees l D cA tx ty o 7 oB (oC.1 1) (oC.1 5) (oC.1 6) (oC.1 4) x1 g2 H.size) (cwV 4 hts gX1_agreeing_X0_agrees rfl rfl rfl hd_X0_agrees ⟨Nat.le_of_ble_eq_true rfl, Nat.le_of_ble_eq_true rfl⟩) fr hw hK hA hZo hZ (ci := 0) rfl rfl rfl rfl hl.1 rfl (Nat.le_of_ble_eq_true rfl) dX1_agreeing_20 ⟨Nat.zero_le _, Nat.zero_le _⟩) fr hw hA (fun H locs hw => ?_)
    refine lv_if_eq (tgt := 30) hx hb dX1_agreeing_23 (by decide) (fun c3 => ?_) (fun c3 => ?_)
    · have hf := if_t c3 hf
      refine lv_iconst (v := 0) hx hb dX1_agreeing_30 (by decide) ?_
      refine lv_istore_n (lv' := [(1, .int 0), (0, .ref (o 11))]) hx hb dX1_agreeing_31 rfl hl (by decide) rfl (fun ls hl => ?_)
      refine lv_iload_n hx hb dX1_agreeing_32 rfl (lv_at hl 0 rfl) ?_
      refine lv_aload_n hx hb dX1_agreeing_33 rfl (lv_at hl 1 rfl) ?_
      refine w_get hx hb hts hi1 hown hK hw 0 rfl rfl 0 (by decide) q0 rfl (v := .ref (o 7)) rfl dX1_agreeing_34 ?_
      refine lv_aload_n hx hb dX1_agreeing_37 rfl (lv_at hl 1 rfl) ?_
      refine w_get hx hb hts hi1 hown hK hw 0 rfl rfl 2 (by decide) q5 rfl (v := .int (oC.1 2)) rfl dX1_agreeing_38 ?_
      refine lv_aload_n hx hb dX1_agreeing_41 rfl (lv_at hl 1 rfl) ?_
      refine w_get hx hb hts hi1 hown hK hw 0 rfl rfl 5 (by decide) q2 rfl (v := .int (oC.1 5)) rfl dX1_agreeing_42 ?_
      refine lv_aload_n hx hb dX1_agreeing_45 rfl (lv_at hl 1 rfl) ?_
      refine w_get hx hb hts hi1 hown hK hw 0 rfl rfl 6 (by decide) q3 rfl (v := .int (oC.1 6)) rfl dX1_agreeing_46 ?_
      refine lv_aload_n hx hb dX1_agreeing_49 rfl (lv_at hl 1 rfl) ?_
      refine w_get hx hb hts hi1 hown hK hw 0 rfl rfl 4 (by decide) q4 rfl (v := .int (oC.1 4)) rfl dX1_agreeing_50 ?_
      obtain ⟨x4, g5, hf⟩ := bn1_e hf
      have fr := fr_X1_X0_oB o cA oC oB oB
      refine go_i (run_v (As := [.int (oC.1 2), .int (oC.1 5), .int (oC.1 6), .int (oC.1 4)]) (rest := [.int 0]) ⟨hx, hb, hml, hown, hts⟩ (k_X0_agrees l D cA tx ty o 7 oB (oC.1 2) (oC.1 5) (oC.1 6) (oC.1 4) x4 g5 H.size) (cwV 4 hts gX1_agreeing_X0_agrees rfl rfl rfl hd_X0_agrees ⟨Nat.le_of_ble_eq_true rfl, Nat.le_of_ble_eq_true rfl⟩) fr hw hK hA hZo hZ (ci := 0) rfl rfl rfl rfl hl.1 rfl (Nat.le_of_ble_eq_true rfl) dX1_agreeing_53 ⟨Nat.zero_le _, Nat.zero_le _⟩) fr hw hA (fun H locs hw => ?_)
      refine lv_if_eq (tgt := 63) hx hb dX1_agreeing_56 (by decide) (fun c6 => ?_) (fun c6 => ?_)
      · have hf := if_t c6 hf
        refine lv_iconst (v := 0) hx hb dX1_agreeing_63 (by decide) ?_
        refine lv_iadd hx hb dX1_agreeing_64 ?_
        refine lv_istore_n (lv' := [(1, .int (0 + 0)), (0, .ref (o 11))]) hx hb dX1_agreeing_65 rfl hl (by decide) rfl (fun ls hl => ?_)
        refine lv_iload_n hx hb dX1_agreeing_66 rfl (lv_at hl 0 rfl) ?_
        refine lv_aload_n hx hb dX1_agreeing_67 rfl (lv_at hl 1 rfl) ?_
        refine w_get hx hb hts hi1 hown hK hw 0 rfl rfl 0 (by decide) q0 rfl (v := .ref (o 7)) rfl dX1_agreeing_68 ?_
        refine lv_aload_n hx hb dX1_agreeing_71 rfl (lv_at hl 1 rfl) ?_
        refine w_get hx hb hts hi1 hown hK hw 0 rfl rfl 3 (by decide) q6 rfl (v := .int (oC.1 3)) rfl dX1_agreeing_72 ?_
        refine lv_aload_n hx hb dX1_agreeing_75 rfl (lv_at hl 1 rfl) ?_
        refine w_get hx hb hts hi1 hown hK hw 0 rfl rfl 5 (by decide) q2 rfl (v := .int (oC.1 5)) rfl dX1_agreeing_76 ?_
        refine lv_aload_n hx hb dX1_agreeing_79 rfl (lv_at hl 1 rfl) ?_
        refine w_get hx hb hts hi1 hown hK hw 0 rfl rfl 6 (by decide) q3 rfl (v := .int (oC.1 6)) rfl dX1_agreeing_80 ?_
        refine lv_aload_n hx hb dX1_agreeing_83 rfl (lv_at hl 1 rfl) ?_
        refine w_get hx hb hts hi1 hown hK hw 0 rfl rfl 4 (by decide) q4 rfl (v := .int (oC.1 4)) rfl dX1_agreeing_84 ?_
        obtain ⟨x7, g8, hf⟩ := bn1_e hf
        have fr := fr_X1_X0_oB o cA oC oB oB
        refine go_i (run_v (As := [.int (oC.1 3), .int (oC.1 5), .int (oC.1 6), .int (oC.1 4)]) (rest := [.int (0 + 0)]) ⟨hx, hb, hml, hown, hts⟩ (k_X0_agrees l D cA tx ty o 7 oB (oC.1 3) (oC.1 5) (oC.1 6) (oC.1 4) x7 g8 H.size) (cwV 4 hts gX1_agreeing_X0_agrees rfl rfl rfl hd_X0_agrees ⟨Nat.le_of_ble_eq_true rfl, Nat.le_of_ble_eq_true rfl⟩) fr hw hK hA hZo hZ (ci := 0) rfl rfl rfl rfl hl.1 rfl (Nat.le_of_ble_eq_true rfl) dX1_agreeing_87 ⟨Nat.zero_le _, Nat.zero_le _⟩) fr hw hA (fun H locs hw => ?_)
        refine lv_if_eq (tgt := 97) hx hb dX1_agreeing_90 (by decide) (fun c9 => ?_) (fun c9 => ?_)
        · have hf := if_t c9 hf
          refine lv_iconst (v := 0) hx hb dX1_agreeing_97 (by decide) ?_
          refine lv_iadd hx hb dX1_agreeing_98 ?_
          have e0_ := sm1 hf
          exact hret _ _ _ _ _ hw e0_ (Or.inl rfl) dX1_agreeing_99
        · have hf := if_f c9 hf
          refine lv_iconst (v := 1) hx hb dX1_agreeing_93 (by decide) ?_
          refine lv_goto (tgt := 98) hx hb dX1_agreeing_94 (by decide) ?_
          refine lv_iadd hx hb dX1_agreeing_98 ?_
          have e0_ := sm1 hf
          exact hret _ _ _ _ _ hw e0_ (Or.inl rfl) dX1_agreeing_99
      · have hf := if_f c6 hf
        refine lv_iconst (v := 1) hx hb dX1_agreeing_59 (by decide) ?_
        refine lv_goto (tgt := 64) hx hb dX1_agreeing_60 (by decide) ?_
        refine lv_iadd hx hb dX1_agreeing_64 ?_
        refine lv_istore_n (lv' := [(1, .int (0 + 1)), (0, .ref (o 11))]) hx hb dX1_agreeing_65 rfl hl (by decide) rfl (fun ls hl => ?_)
        refine lv_iload_n hx hb dX1_agreeing_66 rfl (lv_at hl 0 rfl) ?_
        refine lv_aload_n hx hb dX1_agreeing_67 rfl (lv_at hl 1 rfl) ?_
        refine w_get hx hb hts hi1 hown hK hw 0 rfl rfl 0 (by decide) q0 rfl (v := .ref (o 7)) rfl dX1_agreeing_68 ?_
        refine lv_aload_n hx hb dX1_agreeing_71 rfl (lv_at hl 1 rfl) ?_
        refine w_get hx hb hts hi1 hown hK hw 0 rfl rfl 3 (by decide) q6 rfl (v := .int (oC.1 3)) rfl dX1_agreeing_72 ?_
        refine lv_aload_n hx hb dX1_agreeing_75 rfl (lv_at hl 1 rfl) ?_
        refine w_get hx hb hts hi1 hown hK hw 0 rfl rfl 5 (by decide) q2 rfl (v := .int (oC.1 5)) rfl dX1_agreeing_76 ?_
        refine lv_aload_n hx hb dX1_agreeing_79 rfl (lv_at hl 1 rfl) ?_
        refine w_get hx hb hts hi1 hown hK hw 0 rfl rfl 6 (by decide) q3 rfl (v := .int (oC.1 6)) rfl dX1_agreeing_80 ?_
        refine lv_aload_n hx hb dX1_agreeing_83 rfl (lv_at hl 1 rfl) ?_
        refine w_get hx hb hts hi1 hown hK hw 0 rfl rfl 4 (by decide) q4 rfl (v := .int (oC.1 4)) rfl dX1_agreeing_84 ?_
        obtain ⟨x10, g11, hf⟩ := bn1_e hf
        have fr := fr_X1_X0_oB o cA oC oB oB
        refine go_i (run_v (As := [.int (oC.1 3), .int (oC.1 5), .int (oC.1 6), .int (oC.1 4)]) (rest := [.int (0 + 1)]) ⟨hx, hb, hml, hown, hts⟩ (k_X0_agrees l D cA tx ty o 7 oB (oC.1 3) (oC.1 5) (oC.1 6) (oC.1 4) x10 g11 H.size) (cwV 4 hts gX1_agreeing_X0_agrees rfl rfl rfl hd_X0_agrees ⟨Nat.le_of_ble_eq_true rfl, Nat.le_of_ble_eq_true rfl⟩) fr hw hK hA hZo hZ (ci := 0) rfl rfl rfl rfl hl.1 rfl (Nat.le_of_ble_eq_true rfl) dX1_agreeing_87 ⟨Nat.zero_le _, Nat.zero_le _⟩) fr hw hA (fun H locs hw => ?_)
        refine lv_if_eq (tgt := 97) hx hb dX1_agreeing_90 (by decide) (fun c12 => ?_) (fun c12 => ?_)
        · have hf := if_t c12 hf
          refine lv_iconst (v := 0) hx hb dX1_agreeing_97 (by decide) ?_
          refine lv_iadd hx hb dX1_agreeing_98 ?_
          have e0_ := sm1 hf
          exact hret _ _ _ _ _ hw e0_ (Or.inl rfl) dX1_agreeing_99
        · have hf := if_f c12 hf
          refine lv_iconst (v := 1) hx hb dX1_agreeing_93 (by decide) ?_
          refine lv_goto (tgt := 98) hx hb dX1_agreeing_94 (by decide) ?_
          refine lv_iadd hx hb dX1_agreeing_98 ?_
          have e0_ := sm1 hf
          exact hret _ _ _ _ _ hw e0_ (Or.inl rfl) dX1_agreeing_99
    · have hf := if_f c3 hf
      refine lv_iconst (v := 1) hx hb dX1_agreeing_26 (by decide) ?_
      refine lv_goto (tgt := 31) hx hb dX1_agreeing_27 (by decide) ?_
      refine lv_istore_n (lv' := [(1, .int 1), (0, .ref (o 11))]) hx hb dX1_agreeing_31 rfl hl (by decide) rfl (fun ls hl => ?_)
      refine lv_iload_n hx hb dX1_agreeing_32 rfl (lv_at hl 0 rfl) ?_
      refine lv_aload_n hx hb dX1_agreeing_33 rfl (lv_at hl 1 rfl) ?_
      refine w_get hx hb hts hi1 hown hK hw 0 rfl rfl 0 (by decide) q0 rfl (v := .ref (o 7)) rfl dX1_agreeing_34 ?_
      refine lv_aload_n hx hb dX1_agreeing_37 rfl (lv_at hl 1 rfl) ?_
      refine w_get hx hb hts hi1 hown hK hw 0 rfl rfl 2 (by decide) q5 rfl (v := .int (oC.1 2)) rfl dX1_agreeing_38 ?_
      refine lv_aload_n hx hb dX1_agreeing_41 rfl (lv_at hl 1 rfl) ?_
      refine w_get hx hb hts hi1 hown hK hw 0 rfl rfl 5 (by decide) q2 rfl (v := .int (oC.1 5)) rfl dX1_agreeing_42 ?_
      refine lv_aload_n hx hb dX1_agreeing_45 rfl (lv_at hl 1 rfl) ?_
      refine w_get hx hb hts hi1 hown hK hw 0 rfl rfl 6 (by decide) q3 rfl (v := .int (oC.1 6)) rfl dX1_agreeing_46 ?_
      refine lv_aload_n hx hb dX1_agreeing_49 rfl (lv_at hl 1 rfl) ?_
      refine w_get hx hb hts hi1 hown hK hw 0 rfl rfl 4 (by decide) q4 rfl (v := .int (oC.1 4)) rfl dX1_agreeing_50 ?_
      obtain ⟨x13, g14, hf⟩ := bn1_e hf
      have fr := fr_X1_X0_oB o cA oC oB oB
      refine go_i (run_v (As := [.int (oC.1 2), .int (oC.1 5), .int (oC.1 6), .int (oC.1 4)]) (rest := [.int 1]) ⟨hx, hb, hml, hown, hts⟩ (k_X0_agrees l D cA tx ty o 7 oB (oC.1 2) (oC.1 5) (oC.1 6) (oC.1 4) x13 g14 H.size) (cwV 4 hts gX1_agreeing_X0_agrees rfl rfl rfl hd_X0_agrees ⟨Nat.le_of_ble_eq_true rfl, Nat.le_of_ble_eq_true rfl⟩) fr hw hK hA hZo hZ (ci := 0) rfl rfl rfl rfl hl.1 rfl (Nat.le_of_ble_eq_true rfl) dX1_agreeing_53 ⟨Nat.zero_le _, Nat.zero_le _⟩) fr hw hA (fun H locs hw => ?_)
      refine lv_if_eq (tgt := 63) hx hb dX1_agreeing_56 (by decide) (fun c15 => ?_) (fun c15 => ?_)
      · have hf := if_t c15 hf
        refine lv_iconst (v := 0) hx hb dX1_agreeing_63 (by decide) ?_
        refine lv_iadd hx hb dX1_agreeing_64 ?_
        refine lv_istore_n (lv' := [(1, .int (1 + 0)), (0, .ref (o 11))]) hx hb dX1_agreeing_65 rfl hl (by decide) rfl (fun ls hl => ?_)
        refine lv_iload_n hx hb dX1_agreeing_66 rfl (lv_at hl 0 rfl) ?_
        refine lv_aload_n hx hb dX1_agreeing_67 rfl (lv_at hl 1 rfl) ?_
        refine w_get hx hb hts hi1 hown hK hw 0 rfl rfl 0 (by decide) q0 rfl (v := .ref (o 7)) rfl dX1_agreeing_68 ?_
        refine lv_aload_n hx hb dX1_agreeing_71 rfl (lv_at hl 1 rfl) ?_
        refine w_get hx hb hts hi1 hown hK hw 0 rfl rfl 3 (by decide) q6 rfl (v := .int (oC.1 3)) rfl dX1_agreeing_72 ?_
        refine lv_aload_n hx hb dX1_agreeing_75 rfl (lv_at hl 1 rfl) ?_
        refine w_get hx hb hts hi1 hown hK hw 0 rfl rfl 5 (by decide) q2 rfl (v := .int (oC.1 5)) rfl dX1_agreeing_76 ?_
        refine lv_aload_n hx hb dX1_agreeing_79 rfl (lv_at hl 1 rfl) ?_
        refine w_get hx hb hts hi1 hown hK hw 0 rfl rfl 6 (by decide) q3 rfl (v := .int (oC.1 6)) rfl dX1_agreeing_80 ?_
        refine lv_aload_n hx hb dX1_agreeing_83 rfl (lv_at hl 1 rfl) ?_
        refine w_get hx hb hts hi1 hown hK hw 0 rfl rfl 4 (by decide) q4 rfl (v := .int (oC.1 4)) rfl dX1_agreeing_84 ?_
        obtain ⟨x16, g17, hf⟩ := bn1_e hf
        have fr := fr_X1_X0_oB o cA oC oB oB
        refine go_i (run_v (As := [.int (oC.1 3), .int (oC.1 5), .int (oC.1 6), .int (oC.1 4)]) (rest := [.int (1 + 0)]) ⟨hx, hb, hml, hown, hts⟩ (k_X0_agrees l D cA tx ty o 7 oB (oC.1 3) (oC.1 5) (oC.1 6) (oC.1 4) x16 g17 H.size) (cwV 4 hts gX1_agreeing_X0_agrees rfl rfl rfl hd_X0_agrees ⟨Nat.le_of_ble_eq_true rfl, Nat.le_of_ble_eq_true rfl⟩) fr hw hK hA hZo hZ (ci := 0) rfl rfl rfl rfl hl.1 rfl (Nat.le_of_ble_eq_true rfl) dX1_agreeing_87 ⟨Nat.zero_le _, Nat.zero_le _⟩) fr hw hA (fun H locs hw => ?_)
        refine lv_if_eq (tgt := 97) hx hb dX1_agreeing_90 (by decide) (fun c18 => ?_) (fun c18 => ?_)
        · have hf := if_t c18 hf
          refine lv_iconst (v := 0) hx hb dX1_agreeing_97 (by decide) ?_
          refine lv_iadd hx hb dX1_agreeing_98 ?_
          have e0_ := sm1 hf
          exact hret _ _ _ _ _ hw e0_ (Or.inl rfl) dX1_agreeing_99
        · have hf := if_f c18 hf
          refine lv_iconst (v := 1) hx hb dX1_agreeing_93 (by decide) ?_
          refine lv_goto (tgt := 98) hx hb dX1_agreeing_94 (by decide) ?_
          refine lv_iadd hx hb dX1_agreeing_98 ?_
          have e0_ := sm1 hf
          exact hret _ _ _ _ _ hw e0_ (Or.inl rfl) dX1_agreeing_99
      · have hf := if_f c15 hf
        refine lv_iconst (v := 1) hx hb dX1_agreeing_59 (by decide) ?_
        refine lv_goto (tgt := 64) hx hb dX1_agreeing_60 (by decide) ?_
        refine lv_iadd hx hb dX1_agreeing_64 ?_
        refine lv_istore_n (lv' := [(1, .int (1 + 1)), (0, .ref (o 11))]) hx hb dX1_agreeing_65 rfl hl (by decide) rfl (fun ls hl => ?_)
        refine lv_iload_n hx hb dX1_agreeing_66 rfl (lv_at hl 0 rfl) ?_
        refine lv_aload_n hx hb dX1_agreeing_67 rfl (lv_at hl 1 rfl) ?_
        refine w_get hx hb hts hi1 hown hK hw 0 rfl rfl 0 (by decide) q0 rfl (v := .ref (o 7)) rfl dX1_agreeing_68 ?_
        refine lv_aload_n hx hb dX1_agreeing_71 rfl (lv_at hl 1 rfl) ?_
        refine w_get hx hb hts hi1 hown hK hw 0 rfl rfl 3 (by decide) q6 rfl (v := .int (oC.1 3)) rfl dX1_agreeing_72 ?_
        refine lv_aload_n hx hb dX1_agreeing_75 rfl (lv_at hl 1 rfl) ?_
        refine w_get hx hb hts hi1 hown hK hw 0 rfl rfl 5 (by decide) q2 rfl (v := .int (oC.1 5)) rfl dX1_agreeing_76 ?_
        refine lv_aload_n hx hb dX1_agreeing_79 rfl (lv_at hl 1 rfl) ?_
        refine w_get hx hb hts hi1 hown hK hw 0 rfl rfl 6 (by decide) q3 rfl (v := .int (oC.1 6)) rfl dX1_agreeing_80 ?_
        refine lv_aload_n hx hb dX1_agreeing_83 rfl (lv_at hl 1 rfl) ?_
        refine w_get hx hb hts hi1 hown hK hw 0 rfl rfl 4 (by decide) q4 rfl (v := .int (oC.1 4)) rfl dX1_agreeing_84 ?_
        obtain ⟨x19, g20, hf⟩ := bn1_e hf
        have fr := fr_X1_X0_oB o cA oC oB oB
        refine go_i (run_v (As := [.int (oC.1 3), .int (oC.1 5), .int (oC.1 6), .int (oC.1 4)]) (rest := [.int (1 + 1)]) ⟨hx, hb, hml, hown, hts⟩ (k_X0_agrees l D cA tx ty o 7 oB (oC.1 3) (oC.1 5) (oC.1 6) (oC.1 4) x19 g20 H.size) (cwV 4 hts gX1_agreeing_X0_agrees rfl rfl rfl hd_X0_agrees ⟨Nat.le_of_ble_eq_true rfl, Nat.le_of_ble_eq_true rfl⟩) fr hw hK hA hZo hZ (ci := 0) rfl rfl rfl rfl hl.1 rfl (Nat.le_of_ble_eq_true rfl) dX1_agreeing_87 ⟨Nat.zero_le _, Nat.zero_le _⟩) fr hw hA (fun H locs hw => ?_)
        refine lv_if_eq (tgt := 97) hx hb dX1_agreeing_90 (by decide) (fun c21 => ?_) (fun c21 => ?_)
        · have hf := if_t c21 hf
          refine lv_iconst (v := 0) hx hb dX1_agreeing_97 (by decide) ?_
          refine lv_iadd hx hb dX1_agreeing_98 ?_
          have e0_ := sm1 hf
          exact hret _ _ _ _ _ hw e0_ (Or.inl rfl) dX1_agreeing_99
        · have hf := if_f c21 hf
          refine lv_iconst (v := 1) hx hb dX1_agreeing_93 (by decide) ?_
          refine lv_goto (tgt := 98) hx hb dX1_agreeing_94 (by decide) ?_
          refine lv_iadd hx hb dX1_agreeing_98 ?_
          have e0_ := sm1 hf
          exact hret _ _ _ _ _ hw e0_ (Or.inl rfl) dX1_agreeing_99
  rw [hH, hlc] at goal
  exact goal
abbrev rmX1_radius : Room := { frames := 1, cells := 0, slots := 0, locals := 25 }
theorem hd_X1_radius : yX1_radius.cls = RX1 ∧ yX1_radius.cls ≠ "java/lang/invoke/MethodHandle" ∧ yX1_radius.cls ≠ "java/lang/invoke/VarHandle" ∧ (parseMethodDescriptor yX1_radius.desc).map (fun d => d.parameters.length) = some 0 := by decide +kernel
set_option maxHeartbeats 4000000 in
set_option maxRecDepth 100000 in
theorem k_X1_radius (l : Launch) (D : va_G) (cA : ClassId) (tx ty : Nat) (o : Nat → Nat) (oC : St) (oB : St) (r : Int32) (hf : f_X1_radius oC oB = some (r)) : Mi l yX1_radius wsX1_radius rmX1_radius D cA (z_X tx ty) [.ref (o 11)] (wX1 o cA oC oB) r (wX1 o cA oC oB) := by
  refine Mi.of (cc := cX1_radius) (maxL := 5) (ret := (some .int)) (plainFor_of_name (by decide)) rfl (Nat.le_of_ble_eq_true rfl) (Or.inl rfl) ?_
  intro p e s m below meth c A Q hx hb hml hown hts hK hA hZ hret ls hl hw
  replace hown : s.vm.findClass RX1 = some m.cls := hown
  have hl : lv_has ls 5 [(0, .ref (o 11))] := hl
  have hZo := z_X_ok tx ty
  have hi0 : ∀ w ∈ wsX00, w ∈ wsX1_radius := fun w h => List.mem_cons_of_mem _ (List.mem_append_right _ h)
  have hi1 : ∀ w ∈ wsX10, w ∈ wsX1_radius := fun w h => List.mem_cons_of_mem _ (List.mem_append_left _ (List.mem_append_right _ h))
  have q0 := hts (.fieldLink RX1 34 "ArcRings$Circle" "divisor" "I") (by decide +kernel)
  have q1 := hts (.fieldLink RX1 37 "ArcRings$Circle" "middleX" "I") (by decide +kernel)
  have q2 := hts (.fieldLink RX1 9 "ArcRings$Circle" "board" "LArcRings$Board;") (by decide +kernel)
  have q3 := hts (.fieldLink RX1 25 "ArcRings$Board" "xs" "[I") (by decide +kernel)
  have q4 := hts (.fieldLink RX1 15 "ArcRings$Circle" "first" "I") (by decide +kernel)
  have q5 := hts (.fieldLink RX1 40 "ArcRings$Circle" "middleY" "I") (by decide +kernel)
  have q6 := hts (.fieldLink RX1 31 "ArcRings$Board" "ys" "[I") (by decide +kernel)
  unfold f_X1_radius at hf
  obtain ⟨H, hH⟩ : ∃ H, H = s.heap := ⟨_, rfl⟩
  obtain ⟨locs, hlc⟩ : ∃ locs : List Loc, locs = [] := ⟨_, rfl⟩
  have hw : Wd D A s.heap H locs (wX1 o cA oC oB) := by rw [hH, hlc]; exact hw
  have goal : W p l e rmX1_radius s m ([.ref (o 11)] : List Value).toArray below meth c H locs 0 0 Q (F0 m 0 ls []) := by
    clear hH hlc
    refine lv_aload_n hx hb dX1_radius_0 rfl (lv_at hl 0 rfl) ?_
    refine w_get hx hb hts hi1 hown hK hw 0 rfl rfl 4 (by decide) q0 rfl (v := .int (oC.1 4)) rfl dX1_radius_1 ?_
    refine lv_if_ne (tgt := 9) hx hb dX1_radius_4 (by decide) (fun c1 => ?_) (fun c1 => ?_)
    · have hf := if_f c1 hf
      refine lv_aload_n hx hb dX1_radius_9 rfl (lv_at hl 0 rfl) ?_
      refine w_get hx hb hts hi1 hown hK hw 0 rfl rfl 5 (by decide) q1 rfl (v := .int (oC.1 5)) rfl dX1_radius_10 ?_
      refine lv_aload_n hx hb dX1_radius_13 rfl (lv_at hl 0 rfl) ?_
      refine w_get hx hb hts hi1 hown hK hw 0 rfl rfl 4 (by decide) q0 rfl (v := .int (oC.1 4)) rfl dX1_radius_14 ?_
      refine lv_aload_n hx hb dX1_radius_17 rfl (lv_at hl 0 rfl) ?_
      refine w_get hx hb hts hi1 hown hK hw 0 rfl rfl 0 (by decide) q2 rfl (v := .ref (o 7)) rfl dX1_radius_18 ?_
      refine w_get hx hb hts hi0 hown hK hw 1 rfl rfl 8 (by decide) q3 rfl (v := .ref (o 8)) rfl dX1_radius_21 ?_
      refine lv_aload_n hx hb dX1_radius_24 rfl (lv_at hl 0 rfl) ?_
      refine w_get hx hb hts hi1 hown hK hw 0 rfl rfl 1 (by decide) q4 rfl (v := .int (oC.1 1)) rfl dX1_radius_25 ?_
      obtain ⟨x2, g3, hf⟩ := bn1_e hf
      refine w_ald hx hb hK hw 2 rfl g3 dX1_radius_28 ?_
      refine lv_imul hx hb dX1_radius_29 ?_
      refine lv_isub hx hb dX1_radius_30 ?_
      refine lv_i2l (v := ((oC.1 5) - ((oC.1 4) * x2) : Int32).toInt64) hx hb dX1_radius_31 rfl ?_
      obtain ⟨y4, e5, hf⟩ := bn1_e hf
      refine w_nml (sm1 e5) ?_
      refine lv_lstore_n (lv' := [(1, .long y4), (0, .ref (o 11))]) hx hb dX1_radius_32 rfl hl (by decide) rfl (fun ls hl => ?_)
      refine lv_aload_n hx hb dX1_radius_33 rfl (lv_at hl 1 rfl) ?_
      refine w_get hx hb hts hi1 hown hK hw 0 rfl rfl 6 (by decide) q5 rfl (v := .int (oC.1 6)) rfl dX1_radius_34 ?_
      refine lv_aload_n hx hb dX1_radius_37 rfl (lv_at hl 1 rfl) ?_
      refine w_get hx hb hts hi1 hown hK hw 0 rfl rfl 4 (by decide) q0 rfl (v := .int (oC.1 4)) rfl dX1_radius_38 ?_
      refine lv_aload_n hx hb dX1_radius_41 rfl (lv_at hl 1 rfl) ?_
      refine w_get hx hb hts hi1 hown hK hw 0 rfl rfl 0 (by decide) q2 rfl (v := .ref (o 7)) rfl dX1_radius_42 ?_
      refine w_get hx hb hts hi0 hown hK hw 1 rfl rfl 9 (by decide) q6 rfl (v := .ref (o 9)) rfl dX1_radius_45 ?_
      refine lv_aload_n hx hb dX1_radius_48 rfl (lv_at hl 1 rfl) ?_
      refine w_get hx hb hts hi1 hown hK hw 0 rfl rfl 1 (by decide) q4 rfl (v := .int (oC.1 1)) rfl dX1_radius_49 ?_
      obtain ⟨x6, g7, hf⟩ := bn1_e hf
      refine w_ald hx hb hK hw 3 rfl g7 dX1_radius_52 ?_
      refine lv_imul hx hb dX1_radius_53 ?_
      refine lv_isub hx hb dX1_radius_54 ?_
      refine lv_i2l (v := ((oC.1 6) - ((oC.1 4) * x6) : Int32).toInt64) hx hb dX1_radius_55 rfl ?_
      obtain ⟨y8, e9, hf⟩ := bn1_e hf
      refine w_nml (sm1 e9) ?_
      refine lv_lstore_n (lv' := [(3, .long y8), (1, .long y4), (0, .ref (o 11))]) hx hb dX1_radius_56 rfl hl (by decide) rfl (fun ls hl => ?_)
      refine lv_lload_n hx hb dX1_radius_57 rfl (lv_at hl 1 rfl) ?_
      refine lv_lload_n hx hb dX1_radius_58 rfl (lv_at hl 1 rfl) ?_
      refine lv_lmul hx hb dX1_radius_59 ?_
      refine lv_lload_n hx hb dX1_radius_60 rfl (lv_at hl 0 rfl) ?_
      refine lv_lload_n hx hb dX1_radius_61 rfl (lv_at hl 0 rfl) ?_
      refine lv_lmul hx hb dX1_radius_62 ?_
      refine lv_ladd hx hb dX1_radius_63 ?_
      refine lv_aload_n hx hb dX1_radius_64 rfl (lv_at hl 2 rfl) ?_
      refine w_get hx hb hts hi1 hown hK hw 0 rfl rfl 4 (by decide) q0 rfl (v := .int (oC.1 4)) rfl dX1_radius_65 ?_
      refine lv_i2l (v := (oC.1 4 : Int32).toInt64) hx hb dX1_radius_68 rfl ?_
      refine lv_aload_n hx hb dX1_radius_69 rfl (lv_at hl 2 rfl) ?_
      refine w_get hx hb hts hi1 hown hK hw 0 rfl rfl 4 (by decide) q0 rfl (v := .int (oC.1 4)) rfl dX1_radius_70 ?_
      refine lv_i2l (v := (oC.1 4 : Int32).toInt64) hx hb dX1_radius_73 rfl ?_
      refine lv_lmul hx hb dX1_radius_74 ?_
      obtain ⟨n10, hf⟩ := if_n hf
      refine lv_ldiv hx hb dX1_radius_75 n10 ?_
      obtain ⟨x11, g12, hf⟩ := bn1_e hf
      have fr := fr_X1_S o cA oC oB
      refine go_i (run_s (As := [.long (((y4 * y4) + (y8 * y8)) / (((oC.1 4 : Int32).toInt64) * ((oC.1 4 : Int32).toInt64)))]) (rest := []) ⟨hx, hb, hml, hown, hts⟩ (k_X1_rootOf l D cA (((y4 * y4) + (y8 * y8)) / (((oC.1 4 : Int32).toInt64) * ((oC.1 4 : Int32).toInt64))) x11 g12 H.size) (va_cwS 1 hts gX1_radius_X1_rootOf rfl rfl rfl hd_X1_rootOf ⟨Nat.le_of_ble_eq_true rfl, Nat.le_of_ble_eq_true rfl⟩) fr hw hK hA rfl hl.1 rfl (Nat.le_of_ble_eq_true rfl) dX1_radius_76 ⟨Nat.zero_le _, Nat.zero_le _⟩) fr hw hA (fun H locs hw => ?_)
      have e0_ := sm1 hf
      exact hret _ _ _ _ _ hw e0_ (Or.inl rfl) dX1_radius_79
    · have hf := if_t c1 hf
      refine lv_iconst (v := 0) hx hb dX1_radius_7 (by decide) ?_
      have e0_ := sm1 hf
      exact hret _ _ _ _ _ hw e0_ (Or.inl rfl) dX1_radius_8
  rw [hH, hlc] at goal
  exact goal
abbrev rmX1_vote : Room := { frames := 2, cells := 0, slots := 0, locals := 50 }
theorem hd_X1_vote : yX1_vote.cls = RX1 ∧ yX1_vote.cls ≠ "java/lang/invoke/MethodHandle" ∧ yX1_vote.cls ≠ "java/lang/invoke/VarHandle" ∧ (parseMethodDescriptor yX1_vote.desc).map (fun d => d.parameters.length) = some 0 := by decide +kernel
set_option maxHeartbeats 4000000 in
set_option maxRecDepth 100000 in
theorem k_X1_vote (l : Launch) (D : va_G) (cA : ClassId) (tx ty : Nat) (o : Nat → Nat) (oC : St) (oB : St) (r : Int32) (hf : f_X1_vote oC oB = some (r)) : Mi l yX1_vote wsX1_vote rmX1_vote D cA (z_X tx ty) [.ref (o 11)] (wX1 o cA oC oB) r (wX1 o cA oC oB) := by
  refine Mi.of (cc := cX1_vote) (maxL := 4) (ret := (some .int)) (plainFor_of_name (by decide)) rfl (Nat.le_of_ble_eq_true rfl) (Or.inl rfl) ?_
  intro p e s m below meth c A Q hx hb hml hown hts hK hA hZ hret ls hl hw
  replace hown : s.vm.findClass RX1 = some m.cls := hown
  have hl : lv_has ls 4 [(0, .ref (o 11))] := hl
  have hZo := z_X_ok tx ty
  have hi0 : ∀ w ∈ wsX00, w ∈ wsX1_vote := fun w h => List.mem_cons_of_mem _ (List.mem_append_right _ h)
  have hi1 : ∀ w ∈ wsX10, w ∈ wsX1_vote := fun w h => List.mem_cons_of_mem _ (List.mem_append_left _ (List.mem_append_right _ h))
  have q0 := hts (.fieldLink RX1 9 "ArcRings$Circle" "board" "LArcRings$Board;") (by decide +kernel)
  have q1 := hts (.fieldLink RX1 78 "ArcRings$Board" "low" "I") (by decide +kernel)
  have q2 := hts (.fieldLink RX1 81 "ArcRings$Board" "high" "I") (by decide +kernel)
  have q3 := hts (.initialized RX6) (by decide +kernel)
  have q4 := hts (.static yX6_keyOf) (by decide +kernel)
  unfold f_X1_vote at hf
  obtain ⟨H, hH⟩ : ∃ H, H = s.heap := ⟨_, rfl⟩
  obtain ⟨locs, hlc⟩ : ∃ locs : List Loc, locs = [] := ⟨_, rfl⟩
  have hw : Wd D A s.heap H locs (wX1 o cA oC oB) := by rw [hH, hlc]; exact hw
  have goal : W p l e rmX1_vote s m ([.ref (o 11)] : List Value).toArray below meth c H locs 0 0 Q (F0 m 0 ls []) := by
    clear hH hlc
    refine lv_aload_n hx hb dX1_vote_0 rfl (lv_at hl 0 rfl) ?_
    obtain ⟨x1, g2, hf⟩ := bn1_e hf
    have fr := fr_X1_X1_oC_oB o cA oC oB oC oB
    refine go_i (run_v (As := []) (rest := []) ⟨hx, hb, hml, hown, hts⟩ (k_X1_isLine l D cA tx ty o oC oB x1 g2 H.size) (cwV 0 hts gX1_vote_X1_isLine rfl rfl rfl hd_X1_isLine ⟨Nat.le_of_ble_eq_true rfl, Nat.le_of_ble_eq_true rfl⟩) fr hw hK hA hZo hZ (ci := 1) rfl rfl rfl rfl hl.1 rfl (Nat.le_of_ble_eq_true rfl) dX1_vote_1 ⟨Nat.zero_le _, Nat.zero_le _⟩) fr hw hA (fun H locs hw => ?_)
    refine lv_if_eq (tgt := 9) hx hb dX1_vote_4 (by decide) (fun c3 => ?_) (fun c3 => ?_)
    · have hf := if_t c3 hf
      refine lv_aload_n hx hb dX1_vote_9 rfl (lv_at hl 0 rfl) ?_
      obtain ⟨x4, g5, hf⟩ := bn1_e hf
      have fr := fr_X1_X1_oC_oB o cA oC oB oC oB
      refine go_i (run_v (As := []) (rest := []) ⟨hx, hb, hml, hown, hts⟩ (k_X1_cellX l D cA tx ty o oC oB x4 g5 H.size) (cwV 0 hts gX1_vote_X1_cellX rfl rfl rfl hd_X1_cellX ⟨Nat.le_of_ble_eq_true rfl, Nat.le_of_ble_eq_true rfl⟩) fr hw hK hA hZo hZ (ci := 1) rfl rfl rfl rfl hl.1 rfl (Nat.le_of_ble_eq_true rfl) dX1_vote_10 ⟨Nat.zero_le _, Nat.zero_le _⟩) fr hw hA (fun H locs hw => ?_)
      refine lv_istore_n (lv' := [(1, .int x4), (0, .ref (o 11))]) hx hb dX1_vote_13 rfl hl (by decide) rfl (fun ls hl => ?_)
      refine lv_aload_n hx hb dX1_vote_14 rfl (lv_at hl 1 rfl) ?_
      obtain ⟨x6, g7, hf⟩ := bn1_e hf
      have fr := fr_X1_X1_oC_oB o cA oC oB oC oB
      refine go_i (run_v (As := []) (rest := []) ⟨hx, hb, hml, hown, hts⟩ (k_X1_cellY l D cA tx ty o oC oB x6 g7 H.size) (cwV 0 hts gX1_vote_X1_cellY rfl rfl rfl hd_X1_cellY ⟨Nat.le_of_ble_eq_true rfl, Nat.le_of_ble_eq_true rfl⟩) fr hw hK hA hZo hZ (ci := 1) rfl rfl rfl rfl hl.1 rfl (Nat.le_of_ble_eq_true rfl) dX1_vote_15 ⟨Nat.zero_le _, Nat.zero_le _⟩) fr hw hA (fun H locs hw => ?_)
      refine lv_istore_n (lv' := [(2, .int x6), (1, .int x4), (0, .ref (o 11))]) hx hb dX1_vote_18 rfl hl (by decide) rfl (fun ls hl => ?_)
      refine lv_aload_n hx hb dX1_vote_19 rfl (lv_at hl 2 rfl) ?_
      refine w_get hx hb hts hi1 hown hK hw 0 rfl rfl 0 (by decide) q0 rfl (v := .ref (o 7)) rfl dX1_vote_20 ?_
      refine lv_iload_n hx hb dX1_vote_23 rfl (lv_at hl 1 rfl) ?_
      refine lv_iload_n hx hb dX1_vote_24 rfl (lv_at hl 0 rfl) ?_
      obtain ⟨x8, g9, hf⟩ := bn1_e hf
      have fr := fr_X1_X0_oB o cA oC oB oB
      refine go_i (run_v (As := [.int x4, .int x6]) (rest := []) ⟨hx, hb, hml, hown, hts⟩ (k_X0_holds l D cA tx ty o 7 oB x4 x6 x8 g9 H.size) (cwV 2 hts gX1_vote_X0_holds rfl rfl rfl hd_X0_holds ⟨Nat.le_of_ble_eq_true rfl, Nat.le_of_ble_eq_true rfl⟩) fr hw hK hA hZo hZ (ci := 0) rfl rfl rfl rfl hl.1 rfl (Nat.le_of_ble_eq_true rfl) dX1_vote_25 ⟨Nat.zero_le _, Nat.zero_le _⟩) fr hw hA (fun H locs hw => ?_)
      refine lv_if_eq (tgt := 39) hx hb dX1_vote_28 (by decide) (fun c10 => ?_) (fun c10 => ?_)
      · have hf := if_t c10 hf
        refine lv_iconst (v := (-1)) hx hb dX1_vote_39 (by decide) ?_
        have e0_ := sm1 hf
        exact hret _ _ _ _ _ hw e0_ (Or.inl rfl) dX1_vote_40
      · have hf := if_f c10 hf
        refine lv_aload_n hx hb dX1_vote_31 rfl (lv_at hl 2 rfl) ?_
        obtain ⟨x11, g12, hf⟩ := bn1_e hf
        have fr := fr_X1_X1_oC_oB o cA oC oB oC oB
        refine go_i (run_v (As := []) (rest := []) ⟨hx, hb, hml, hown, hts⟩ (k_X1_agreeing l D cA tx ty o oC oB x11 g12 H.size) (cwV 0 hts gX1_vote_X1_agreeing rfl rfl rfl hd_X1_agreeing ⟨Nat.le_of_ble_eq_true rfl, Nat.le_of_ble_eq_true rfl⟩) fr hw hK hA hZo hZ (ci := 1) rfl rfl rfl rfl hl.1 rfl (Nat.le_of_ble_eq_true rfl) dX1_vote_32 ⟨Nat.zero_le _, Nat.zero_le _⟩) fr hw hA (fun H locs hw => ?_)
        refine lv_iconst (v := 3) hx hb dX1_vote_35 (by decide) ?_
        refine lv_icmp_ge (tgt := 41) hx hb dX1_vote_36 (by decide) (fun c13 => ?_) (fun c13 => ?_)
        · have hf := if_t c13 hf
          refine lv_aload_n hx hb dX1_vote_41 rfl (lv_at hl 2 rfl) ?_
          obtain ⟨x14, g15, hf⟩ := bn1_e hf
          have fr := fr_X1_X1_oC_oB o cA oC oB oC oB
          refine go_i (run_v (As := []) (rest := []) ⟨hx, hb, hml, hown, hts⟩ (k_X1_radius l D cA tx ty o oC oB x14 g15 H.size) (cwV 0 hts gX1_vote_X1_radius rfl rfl rfl hd_X1_radius ⟨Nat.le_of_ble_eq_true rfl, Nat.le_of_ble_eq_true rfl⟩) fr hw hK hA hZo hZ (ci := 1) rfl rfl rfl rfl hl.1 rfl (Nat.le_of_ble_eq_true rfl) dX1_vote_42 ⟨Nat.zero_le _, Nat.zero_le _⟩) fr hw hA (fun H locs hw => ?_)
          refine lv_istore_n (lv' := [(3, .int x14), (2, .int x6), (1, .int x4), (0, .ref (o 11))]) hx hb dX1_vote_45 rfl hl (by decide) rfl (fun ls hl => ?_)
          refine lv_iload_n hx hb dX1_vote_46 rfl (lv_at hl 0 rfl) ?_
          refine lv_aload_n hx hb dX1_vote_47 rfl (lv_at hl 3 rfl) ?_
          refine w_get hx hb hts hi1 hown hK hw 0 rfl rfl 0 (by decide) q0 rfl (v := .ref (o 7)) rfl dX1_vote_48 ?_
          refine w_get hx hb hts hi0 hown hK hw 1 rfl rfl 3 (by decide) q1 rfl (v := .int (oB.1 3)) rfl dX1_vote_51 ?_
          refine lv_icmp_lt (tgt := 68) hx hb dX1_vote_54 (by decide) (fun c16 => ?_) (fun c16 => ?_)
          · have hf := if_t c16 hf
            refine lv_iconst (v := (-1)) hx hb dX1_vote_68 (by decide) ?_
            refine lv_goto (tgt := 78) hx hb dX1_vote_69 (by decide) ?_
            have e0_ := sm1 hf
            exact hret _ _ _ _ _ hw e0_ (Or.inl rfl) dX1_vote_78
          · have hf := if_f c16 hf
            refine lv_iload_n hx hb dX1_vote_57 rfl (lv_at hl 0 rfl) ?_
            refine lv_aload_n hx hb dX1_vote_58 rfl (lv_at hl 3 rfl) ?_
            refine w_get hx hb hts hi1 hown hK hw 0 rfl rfl 0 (by decide) q0 rfl (v := .ref (o 7)) rfl dX1_vote_59 ?_
            refine w_get hx hb hts hi0 hown hK hw 1 rfl rfl 4 (by decide) q2 rfl (v := .int (oB.1 4)) rfl dX1_vote_62 ?_
            refine lv_icmp_le (tgt := 72) hx hb dX1_vote_65 (by decide) (fun c17 => ?_) (fun c17 => ?_)
            · have hf := if_t c17 hf
              refine lv_iload_n hx hb dX1_vote_72 rfl (lv_at hl 2 rfl) ?_
              refine lv_iload_n hx hb dX1_vote_73 rfl (lv_at hl 1 rfl) ?_
              refine lv_iload_n hx hb dX1_vote_74 rfl (lv_at hl 0 rfl) ?_
              obtain ⟨x18, g19, hf⟩ := bn1_e hf
              have fr := fr_X1_S o cA oC oB
              refine go_i (run_n (As := [.int x4, .int x6, .int x14]) (rest := []) ⟨hx, hb, hml, hown, hts⟩ (k_X6_keyOf l D cA x4 x6 x14 x18 g19 H.size) ⟨va_cnB 3 hts gX1_vote_X6_keyOf_n84 rfl rfl rfl (hZ.2.2.2.2.2 (RX1, 84, yX6_keyOf) (List.mem_of_getElem? (i := 3) rfl)) q3 hd_X6_keyOf ⟨Nat.le_of_ble_eq_true rfl, Nat.le_of_ble_eq_true rfl⟩, q4, trivial⟩ fr hw hK hA rfl hl.1 rfl (Nat.le_of_ble_eq_true rfl) dX1_vote_75 ⟨Nat.zero_le _, Nat.zero_le _⟩) fr hw hA (fun H locs hw => ?_)
              have e0_ := sm1 hf
              exact hret _ _ _ _ _ hw e0_ (Or.inl rfl) dX1_vote_78
            · have hf := if_f c17 hf
              refine lv_iconst (v := (-1)) hx hb dX1_vote_68 (by decide) ?_
              refine lv_goto (tgt := 78) hx hb dX1_vote_69 (by decide) ?_
              have e0_ := sm1 hf
              exact hret _ _ _ _ _ hw e0_ (Or.inl rfl) dX1_vote_78
        · have hf := if_f c13 hf
          refine lv_iconst (v := (-1)) hx hb dX1_vote_39 (by decide) ?_
          have e0_ := sm1 hf
          exact hret _ _ _ _ _ hw e0_ (Or.inl rfl) dX1_vote_40
    · have hf := if_f c3 hf
      refine lv_iconst (v := (-1)) hx hb dX1_vote_7 (by decide) ?_
      have e0_ := sm1 hf
      exact hret _ _ _ _ _ hw e0_ (Or.inl rfl) dX1_vote_8
  rw [hH, hlc] at goal
  exact goal
abbrev rmX4_from : Room := { frames := 1, cells := 0, slots := 0, locals := 20 }
theorem hd_X4_from : yX4_from.cls = RX4 ∧ yX4_from.cls ≠ "java/lang/invoke/MethodHandle" ∧ yX4_from.cls ≠ "java/lang/invoke/VarHandle" ∧ (parseMethodDescriptor yX4_from.desc).map (fun d => d.parameters.length) = some 1 := by decide +kernel
set_option maxHeartbeats 4000000 in
set_option maxRecDepth 100000 in
theorem k_X4_from (l : Launch) (D : va_G) (cA : ClassId) (tx ty : Nat) (o : Nat → Nat) (oG : St) (oB : St) (a1 : Int32) (oG' : St) (hf : f_X4_from oG a1 = some (oG')) : Mv l yX4_from wsX4_from rmX4_from D cA (z_X tx ty) [.ref (o 12), .int a1] (wX4 o cA oG oB) (wX4 o cA oG' oB) := by
  refine Mv.of (cc := cX4_from) (maxL := 2) (by decide) rfl (Nat.le_of_ble_eq_true rfl) ?_
  intro p e s m below meth c A Q hx hb hml hown hts hK hA hZ hret ls hl hw
  replace hown : s.vm.findClass RX4 = some m.cls := hown
  have hl : lv_has ls 2 [(0, .ref (o 12)), (1, .int a1)] := hl
  have hZo := z_X_ok tx ty
  have hi4 : ∀ w ∈ wsX40, w ∈ wsX4_from := fun w h => List.mem_cons_of_mem _ (List.mem_append_right _ h)
  have q0 := hts (.initialized RX6) (by decide +kernel)
  have q1 := hts (.static yX6_keyX) (by decide +kernel)
  have q2 := hts (.fieldLink RX4 19 "ArcRings$Sight" "centreX" "I") (by decide +kernel)
  have q3 := hts (.static yX6_keyY) (by decide +kernel)
  have q4 := hts (.fieldLink RX4 26 "ArcRings$Sight" "centreY" "I") (by decide +kernel)
  have q5 := hts (.static yX6_keyRadius) (by decide +kernel)
  have q6 := hts (.fieldLink RX4 32 "ArcRings$Sight" "radius" "I") (by decide +kernel)
  unfold f_X4_from at hf
  obtain ⟨H, hH⟩ : ∃ H, H = s.heap := ⟨_, rfl⟩
  obtain ⟨locs, hlc⟩ : ∃ locs : List Loc, locs = [] := ⟨_, rfl⟩
  have hw : Wd D A s.heap H locs (wX4 o cA oG oB) := by rw [hH, hlc]; exact hw
  have goal : W p l e rmX4_from s m ([.ref (o 12), .int a1] : List Value).toArray below meth c H locs 0 0 Q (F0 m 0 ls []) := by
    clear hH hlc
    refine lv_aload_n hx hb dX4_from_0 rfl (lv_at hl 0 rfl) ?_
    refine lv_iconst (v := 2) hx hb dX4_from_1 (by decide) ?_
    refine lv_iload_n hx hb dX4_from_2 rfl (lv_at hl 1 rfl) ?_
    obtain ⟨x1, g2, hf⟩ := bn1_e hf
    have fr := fr_X4_S o cA oG oB
    refine go_i (run_n (As := [.int a1]) (rest := [.int 2, .ref (o 12)]) ⟨hx, hb, hml, hown, hts⟩ (k_X6_keyX l D cA a1 x1 g2 H.size) ⟨va_cnB 1 hts gX4_from_X6_keyX_n13 rfl rfl rfl (hZ.2.2.2.2.2 (RX4, 13, yX6_keyX) (List.mem_of_getElem? (i := 4) rfl)) q0 hd_X6_keyX ⟨Nat.le_of_ble_eq_true rfl, Nat.le_of_ble_eq_true rfl⟩, q1, trivial⟩ fr hw hK hA rfl hl.1 rfl (Nat.le_of_ble_eq_true rfl) dX4_from_3 ⟨Nat.zero_le _, Nat.zero_le _⟩) fr hw hA (fun H locs hw => ?_)
    refine lv_imul hx hb dX4_from_6 ?_
    refine lv_iconst (v := 1) hx hb dX4_from_7 (by decide) ?_
    refine lv_iadd hx hb dX4_from_8 ?_
    refine w_put (ws' := (wX4 o cA ((sI oG 1 ((2 * x1) + 1))) oB)) hx hb hts hi4 tyX4 tyX4_ok nmX4 hown hK hw 0 rfl rfl 1 (by decide) q2 rfl rfl rfl rfl (Nat.le_of_ble_eq_true rfl) rfl dX4_from_9 (fun H locs hw => ?_)
    refine lv_aload_n hx hb dX4_from_12 rfl (lv_at hl 0 rfl) ?_
    refine lv_iconst (v := 2) hx hb dX4_from_13 (by decide) ?_
    refine lv_iload_n hx hb dX4_from_14 rfl (lv_at hl 1 rfl) ?_
    obtain ⟨x3, g4, hf⟩ := bn1_e hf
    have fr := fr_X4_S o cA ((sI oG 1 ((2 * x1) + 1))) oB
    refine go_i (run_n (As := [.int a1]) (rest := [.int 2, .ref (o 12)]) ⟨hx, hb, hml, hown, hts⟩ (k_X6_keyY l D cA a1 x3 g4 H.size) ⟨va_cnB 1 hts gX4_from_X6_keyY_n23 rfl rfl rfl (hZ.2.2.2.2.2 (RX4, 23, yX6_keyY) (List.mem_of_getElem? (i := 5) rfl)) q0 hd_X6_keyY ⟨Nat.le_of_ble_eq_true rfl, Nat.le_of_ble_eq_true rfl⟩, q3, trivial⟩ fr hw hK hA rfl hl.1 rfl (Nat.le_of_ble_eq_true rfl) dX4_from_15 ⟨Nat.zero_le _, Nat.zero_le _⟩) fr hw hA (fun H locs hw => ?_)
    refine lv_imul hx hb dX4_from_18 ?_
    refine lv_iconst (v := 1) hx hb dX4_from_19 (by decide) ?_
    refine lv_iadd hx hb dX4_from_20 ?_
    refine w_put (ws' := (wX4 o cA ((sI (sI oG 1 ((2 * x1) + 1)) 2 ((2 * x3) + 1))) oB)) hx hb hts hi4 tyX4 tyX4_ok nmX4 hown hK hw 0 rfl rfl 2 (by decide) q4 rfl rfl rfl rfl (Nat.le_of_ble_eq_true rfl) rfl dX4_from_21 (fun H locs hw => ?_)
    refine lv_aload_n hx hb dX4_from_24 rfl (lv_at hl 0 rfl) ?_
    refine lv_iload_n hx hb dX4_from_25 rfl (lv_at hl 1 rfl) ?_
    obtain ⟨x5, g6, hf⟩ := bn1_e hf
    have fr := fr_X4_S o cA ((sI (sI oG 1 ((2 * x1) + 1)) 2 ((2 * x3) + 1))) oB
    refine go_i (run_n (As := [.int a1]) (rest := [.ref (o 12)]) ⟨hx, hb, hml, hown, hts⟩ (k_X6_keyRadius l D cA a1 x5 g6 H.size) ⟨va_cnB 1 hts gX4_from_X6_keyRadius_n29 rfl rfl rfl (hZ.2.2.2.2.2 (RX4, 29, yX6_keyRadius) (List.mem_of_getElem? (i := 6) rfl)) q0 hd_X6_keyRadius ⟨Nat.le_of_ble_eq_true rfl, Nat.le_of_ble_eq_true rfl⟩, q5, trivial⟩ fr hw hK hA rfl hl.1 rfl (Nat.le_of_ble_eq_true rfl) dX4_from_26 ⟨Nat.zero_le _, Nat.zero_le _⟩) fr hw hA (fun H locs hw => ?_)
    refine w_put (ws' := (wX4 o cA ((sI (sI (sI oG 1 ((2 * x1) + 1)) 2 ((2 * x3) + 1)) 3 x5)) oB)) hx hb hts hi4 tyX4 tyX4_ok nmX4 hown hK hw 0 rfl rfl 3 (by decide) q6 rfl rfl rfl rfl (Nat.le_of_ble_eq_true rfl) rfl dX4_from_29 (fun H locs hw => ?_)
    have e0_ := sm1 hf
    exact hret _ _ _ _ (by rw [← e0_]; exact hw) dX4_from_32
  rw [hH, hlc] at goal
  exact goal
abbrev rmX4_squared : Room := { frames := 0, cells := 0, slots := 0, locals := 0 }
theorem hd_X4_squared : yX4_squared.cls = RX4 ∧ yX4_squared.cls ≠ "java/lang/invoke/MethodHandle" ∧ yX4_squared.cls ≠ "java/lang/invoke/VarHandle" ∧ (parseMethodDescriptor yX4_squared.desc).map (fun d => d.parameters.length) = some 1 := by decide +kernel
set_option maxHeartbeats 4000000 in
set_option maxRecDepth 100000 in
theorem k_X4_squared (l : Launch) (D : va_G) (cA : ClassId) (tx ty : Nat) (o : Nat → Nat) (oG : St) (oB : St) (a1 : Int32) (r : Int32) (hf : f_X4_squared oG oB a1 = some (r)) : Mi l yX4_squared wsX4_squared rmX4_squared D cA (z_X tx ty) [.ref (o 12), .int a1] (wX4 o cA oG oB) r (wX4 o cA oG oB) := by
  refine Mi.of (cc := cX4_squared) (maxL := 4) (ret := (some .int)) (plainFor_of_name (by decide)) rfl (Nat.le_of_ble_eq_true rfl) (Or.inl rfl) ?_
  intro p e s m below meth c A Q hx hb hml hown hts hK hA hZ hret ls hl hw
  replace hown : s.vm.findClass RX4 = some m.cls := hown
  have hl : lv_has ls 4 [(0, .ref (o 12)), (1, .int a1)] := hl
  have hZo := z_X_ok tx ty
  have hi0 : ∀ w ∈ wsX00, w ∈ wsX4_squared := fun w h => List.mem_cons_of_mem _ (List.mem_append_right _ h)
  have hi4 : ∀ w ∈ wsX40, w ∈ wsX4_squared := fun w h => List.mem_cons_of_mem _ (List.mem_append_left _ (List.mem_append_right _ h))
  have q0 := hts (.fieldLink RX4 7 "ArcRings$Sight" "board" "LArcRings$Board;") (by decide +kernel)
  have q1 := hts (.fieldLink RX4 35 "ArcRings$Board" "xs" "[I") (by decide +kernel)
  have q2 := hts (.fieldLink RX4 19 "ArcRings$Sight" "centreX" "I") (by decide +kernel)
  have q3 := hts (.fieldLink RX4 41 "ArcRings$Board" "ys" "[I") (by decide +kernel)
  have q4 := hts (.fieldLink RX4 26 "ArcRings$Sight" "centreY" "I") (by decide +kernel)
  unfold f_X4_squared at hf
  obtain ⟨H, hH⟩ : ∃ H, H = s.heap := ⟨_, rfl⟩
  obtain ⟨locs, hlc⟩ : ∃ locs : List Loc, locs = [] := ⟨_, rfl⟩
  have hw : Wd D A s.heap H locs (wX4 o cA oG oB) := by rw [hH, hlc]; exact hw
  have goal : W p l e rmX4_squared s m ([.ref (o 12), .int a1] : List Value).toArray below meth c H locs 0 0 Q (F0 m 0 ls []) := by
    clear hH hlc
    refine lv_iconst (v := 2) hx hb dX4_squared_0 (by decide) ?_
    refine lv_aload_n hx hb dX4_squared_1 rfl (lv_at hl 0 rfl) ?_
    refine w_get hx hb hts hi4 hown hK hw 0 rfl rfl 0 (by decide) q0 rfl (v := .ref (o 7)) rfl dX4_squared_2 ?_
    refine w_get hx hb hts hi0 hown hK hw 1 rfl rfl 8 (by decide) q1 rfl (v := .ref (o 8)) rfl dX4_squared_5 ?_
    refine lv_iload_n hx hb dX4_squared_8 rfl (lv_at hl 1 rfl) ?_
    obtain ⟨x1, g2, hf⟩ := bn1_e hf
    refine w_ald hx hb hK hw 2 rfl g2 dX4_squared_9 ?_
    refine lv_imul hx hb dX4_squared_10 ?_
    refine lv_aload_n hx hb dX4_squared_11 rfl (lv_at hl 0 rfl) ?_
    refine w_get hx hb hts hi4 hown hK hw 0 rfl rfl 1 (by decide) q2 rfl (v := .int (oG.1 1)) rfl dX4_squared_12 ?_
    refine lv_isub hx hb dX4_squared_15 ?_
    refine lv_istore_n (lv' := [(2, .int ((2 * x1) - (oG.1 1))), (0, .ref (o 12)), (1, .int a1)]) hx hb dX4_squared_16 rfl hl (by decide) rfl (fun ls hl => ?_)
    refine lv_iconst (v := 2) hx hb dX4_squared_17 (by decide) ?_
    refine lv_aload_n hx hb dX4_squared_18 rfl (lv_at hl 1 rfl) ?_
    refine w_get hx hb hts hi4 hown hK hw 0 rfl rfl 0 (by decide) q0 rfl (v := .ref (o 7)) rfl dX4_squared_19 ?_
    refine w_get hx hb hts hi0 hown hK hw 1 rfl rfl 9 (by decide) q3 rfl (v := .ref (o 9)) rfl dX4_squared_22 ?_
    refine lv_iload_n hx hb dX4_squared_25 rfl (lv_at hl 2 rfl) ?_
    obtain ⟨x3, g4, hf⟩ := bn1_e hf
    refine w_ald hx hb hK hw 3 rfl g4 dX4_squared_26 ?_
    refine lv_imul hx hb dX4_squared_27 ?_
    refine lv_aload_n hx hb dX4_squared_28 rfl (lv_at hl 1 rfl) ?_
    refine w_get hx hb hts hi4 hown hK hw 0 rfl rfl 2 (by decide) q4 rfl (v := .int (oG.1 2)) rfl dX4_squared_29 ?_
    refine lv_isub hx hb dX4_squared_32 ?_
    refine lv_istore_n (lv' := [(3, .int ((2 * x3) - (oG.1 2))), (2, .int ((2 * x1) - (oG.1 1))), (0, .ref (o 12)), (1, .int a1)]) hx hb dX4_squared_33 rfl hl (by decide) rfl (fun ls hl => ?_)
    refine lv_iload_n hx hb dX4_squared_34 rfl (lv_at hl 1 rfl) ?_
    refine lv_iload_n hx hb dX4_squared_35 rfl (lv_at hl 1 rfl) ?_
    refine lv_imul hx hb dX4_squared_36 ?_
    refine lv_iload_n hx hb dX4_squared_37 rfl (lv_at hl 0 rfl) ?_
    refine lv_iload_n hx hb dX4_squared_38 rfl (lv_at hl 0 rfl) ?_
    refine lv_imul hx hb dX4_squared_39 ?_
    refine lv_iadd hx hb dX4_squared_40 ?_
    have e0_ := sm1 hf
    exact hret _ _ _ _ _ hw e0_ (Or.inl rfl) dX4_squared_41
  rw [hH, hlc] at goal
  exact goal
abbrev rmX4_isSupportedBy : Room := { frames := 1, cells := 0, slots := 0, locals := 29 }
theorem hd_X4_isSupportedBy : yX4_isSupportedBy.cls = RX4 ∧ yX4_isSupportedBy.cls ≠ "java/lang/invoke/MethodHandle" ∧ yX4_isSupportedBy.cls ≠ "java/lang/invoke/VarHandle" ∧ (parseMethodDescriptor yX4_isSupportedBy.desc).map (fun d => d.parameters.length) = some 1 := by decide +kernel
set_option maxHeartbeats 4000000 in
set_option maxRecDepth 100000 in
theorem k_X4_isSupportedBy (l : Launch) (D : va_G) (cA : ClassId) (tx ty : Nat) (o : Nat → Nat) (oG : St) (oB : St) (a1 : Int32) (r : Int32) (hf : f_X4_isSupportedBy oG oB a1 = some (r)) : Mi l yX4_isSupportedBy wsX4_isSupportedBy rmX4_isSupportedBy D cA (z_X tx ty) [.ref (o 12), .int a1] (wX4 o cA oG oB) r (wX4 o cA oG oB) := by
  refine Mi.of (cc := cX4_isSupportedBy) (maxL := 5) (ret := (some .boolean)) (plainFor_of_name (by decide)) rfl (Nat.le_of_ble_eq_true rfl) (Or.inr rfl) ?_
  intro p e s m below meth c A Q hx hb hml hown hts hK hA hZ hret ls hl hw
  replace hown : s.vm.findClass RX4 = some m.cls := hown
  have hl : lv_has ls 5 [(0, .ref (o 12)), (1, .int a1)] := hl
  have hZo := z_X_ok tx ty
  have hi0 : ∀ w ∈ wsX00, w ∈ wsX4_isSupportedBy := fun w h => List.mem_cons_of_mem _ (List.mem_append_right _ h)
  have hi4 : ∀ w ∈ wsX40, w ∈ wsX4_isSupportedBy := fun w h => List.mem_cons_of_mem _ (List.mem_append_left _ (List.mem_append_right _ h))
  have q0 := hts (.fieldLink RX4 32 "ArcRings$Sight" "radius" "I") (by decide +kernel)
  have q1 := hts (.fieldLink RX4 7 "ArcRings$Sight" "board" "LArcRings$Board;") (by decide +kernel)
  have q2 := hts (.fieldLink RX4 44 "ArcRings$Board" "slack" "I") (by decide +kernel)
  have q3 := hts (.methodLink RX4 47 Lib.Math.max.name) (by decide +kernel)
  have q4 := hts (.static Lib.Math.max.name) (by decide +kernel)
  have q5 := hts (.initialized "java/lang/Math") (by decide +kernel)
  have q6 := hts (.code Lib.Math.max.name Lib.Math.max.code 2 (some .int)) (by decide +kernel)
  have q7 := hts (.fieldLink RX4 19 "ArcRings$Sight" "centreX" "I") (by decide +kernel)
  have q8 := hts (.fieldLink RX4 26 "ArcRings$Sight" "centreY" "I") (by decide +kernel)
  unfold f_X4_isSupportedBy at hf
  obtain ⟨H, hH⟩ : ∃ H, H = s.heap := ⟨_, rfl⟩
  obtain ⟨locs, hlc⟩ : ∃ locs : List Loc, locs = [] := ⟨_, rfl⟩
  have hw : Wd D A s.heap H locs (wX4 o cA oG oB) := by rw [hH, hlc]; exact hw
  have goal : W p l e rmX4_isSupportedBy s m ([.ref (o 12), .int a1] : List Value).toArray below meth c H locs 0 0 Q (F0 m 0 ls []) := by
    clear hH hlc
    refine lv_iconst (v := 0) hx hb dX4_isSupportedBy_0 (by decide) ?_
    refine lv_iconst (v := 2) hx hb dX4_isSupportedBy_1 (by decide) ?_
    refine lv_aload_n hx hb dX4_isSupportedBy_2 rfl (lv_at hl 0 rfl) ?_
    refine w_get hx hb hts hi4 hown hK hw 0 rfl rfl 3 (by decide) q0 rfl (v := .int (oG.1 3)) rfl dX4_isSupportedBy_3 ?_
    refine lv_imul hx hb dX4_isSupportedBy_6 ?_
    refine lv_aload_n hx hb dX4_isSupportedBy_7 rfl (lv_at hl 0 rfl) ?_
    refine w_get hx hb hts hi4 hown hK hw 0 rfl rfl 0 (by decide) q1 rfl (v := .ref (o 7)) rfl dX4_isSupportedBy_8 ?_
    refine w_get hx hb hts hi0 hown hK hw 1 rfl rfl 5 (by decide) q2 rfl (v := .int (oB.1 5)) rfl dX4_isSupportedBy_11 ?_
    refine lv_isub hx hb dX4_isSupportedBy_14 ?_
    refine va_mmax hx hb (hml.trans hl.1.symm) hown q3 q4 q5 q6 (Nat.le_of_ble_eq_true rfl) (Nat.le_of_ble_eq_true rfl) (Nat.zero_le _) (Nat.zero_le _) dX4_isSupportedBy_15 ?_
    obtain ⟨y1, e2, hf⟩ := bn1_e hf
    refine w_nmi (sm1 e2) ?_
    refine lv_istore_n (lv' := [(2, .int y1), (0, .ref (o 12)), (1, .int a1)]) hx hb dX4_isSupportedBy_18 rfl hl (by decide) rfl (fun ls hl => ?_)
    refine lv_iconst (v := 2) hx hb dX4_isSupportedBy_19 (by decide) ?_
    refine lv_aload_n hx hb dX4_isSupportedBy_20 rfl (lv_at hl 1 rfl) ?_
    refine w_get hx hb hts hi4 hown hK hw 0 rfl rfl 3 (by decide) q0 rfl (v := .int (oG.1 3)) rfl dX4_isSupportedBy_21 ?_
    refine lv_imul hx hb dX4_isSupportedBy_24 ?_
    refine lv_iconst (v := 2) hx hb dX4_isSupportedBy_25 (by decide) ?_
    refine lv_iadd hx hb dX4_isSupportedBy_26 ?_
    refine lv_aload_n hx hb dX4_isSupportedBy_27 rfl (lv_at hl 1 rfl) ?_
    refine w_get hx hb hts hi4 hown hK hw 0 rfl rfl 0 (by decide) q1 rfl (v := .ref (o 7)) rfl dX4_isSupportedBy_28 ?_
    refine w_get hx hb hts hi0 hown hK hw 1 rfl rfl 5 (by decide) q2 rfl (v := .int (oB.1 5)) rfl dX4_isSupportedBy_31 ?_
    refine lv_iadd hx hb dX4_isSupportedBy_34 ?_
    obtain ⟨y3, e4, hf⟩ := bn1_e hf
    refine w_nmi (sm1 e4) ?_
    refine lv_istore_n (lv' := [(3, .int y3), (2, .int y1), (0, .ref (o 12)), (1, .int a1)]) hx hb dX4_isSupportedBy_35 rfl hl (by decide) rfl (fun ls hl => ?_)
    refine lv_aload_n hx hb dX4_isSupportedBy_36 rfl (lv_at hl 2 rfl) ?_
    refine lv_iload_n hx hb dX4_isSupportedBy_37 rfl (lv_at hl 3 rfl) ?_
    obtain ⟨x5, g6, hf⟩ := bn1_e hf
    have fr := fr_X4_X4_oG_oB o cA oG oB oG oB
    refine go_i (run_v (As := [.int a1]) (rest := []) ⟨hx, hb, hml, hown, hts⟩ (k_X4_squared l D cA tx ty o oG oB a1 x5 g6 H.size) (cwV 1 hts gX4_isSupportedBy_X4_squared rfl rfl rfl hd_X4_squared ⟨Nat.le_of_ble_eq_true rfl, Nat.le_of_ble_eq_true rfl⟩) fr hw hK hA hZo hZ (ci := 4) rfl rfl rfl rfl hl.1 rfl (Nat.le_of_ble_eq_true rfl) dX4_isSupportedBy_38 ⟨Nat.zero_le _, Nat.zero_le _⟩) fr hw hA (fun H locs hw => ?_)
    refine lv_istore (lv' := [(4, .int x5), (3, .int y3), (2, .int y1), (0, .ref (o 12)), (1, .int a1)]) hx hb dX4_isSupportedBy_41 hl (by decide) rfl (fun ls hl => ?_)
    refine lv_iload hx hb dX4_isSupportedBy_43 (lv_at hl 0 rfl) ?_
    refine lv_iload_n hx hb dX4_isSupportedBy_45 rfl (lv_at hl 2 rfl) ?_
    refine lv_iload_n hx hb dX4_isSupportedBy_46 rfl (lv_at hl 2 rfl) ?_
    refine lv_imul hx hb dX4_isSupportedBy_47 ?_
    refine lv_icmp_lt (tgt := 83) hx hb dX4_isSupportedBy_48 (by decide) (fun c7 => ?_) (fun c7 => ?_)
    · have hf := if_t c7 hf
      refine lv_iconst (v := 0) hx hb dX4_isSupportedBy_83 (by decide) ?_
      have e0_ := sm1 hf
      exact hret _ _ _ _ _ hw e0_ (Or.inr (Or.inl rfl)) dX4_isSupportedBy_84
    · have hf := if_f c7 hf
      refine lv_iload hx hb dX4_isSupportedBy_51 (lv_at hl 0 rfl) ?_
      refine lv_iload_n hx hb dX4_isSupportedBy_53 rfl (lv_at hl 1 rfl) ?_
      refine lv_iload_n hx hb dX4_isSupportedBy_54 rfl (lv_at hl 1 rfl) ?_
      refine lv_imul hx hb dX4_isSupportedBy_55 ?_
      refine lv_icmp_gt (tgt := 83) hx hb dX4_isSupportedBy_56 (by decide) (fun c8 => ?_) (fun c8 => ?_)
      · have hf := if_t c8 hf
        refine lv_iconst (v := 0) hx hb dX4_isSupportedBy_83 (by decide) ?_
        have e0_ := sm1 hf
        exact hret _ _ _ _ _ hw e0_ (Or.inr (Or.inl rfl)) dX4_isSupportedBy_84
      · have hf := if_f c8 hf
        refine lv_aload_n hx hb dX4_isSupportedBy_59 rfl (lv_at hl 3 rfl) ?_
        refine w_get hx hb hts hi4 hown hK hw 0 rfl rfl 0 (by decide) q1 rfl (v := .ref (o 7)) rfl dX4_isSupportedBy_60 ?_
        refine lv_iload_n hx hb dX4_isSupportedBy_63 rfl (lv_at hl 4 rfl) ?_
        refine lv_aload_n hx hb dX4_isSupportedBy_64 rfl (lv_at hl 3 rfl) ?_
        refine w_get hx hb hts hi4 hown hK hw 0 rfl rfl 1 (by decide) q7 rfl (v := .int (oG.1 1)) rfl dX4_isSupportedBy_65 ?_
        refine lv_aload_n hx hb dX4_isSupportedBy_68 rfl (lv_at hl 3 rfl) ?_
        refine w_get hx hb hts hi4 hown hK hw 0 rfl rfl 2 (by decide) q8 rfl (v := .int (oG.1 2)) rfl dX4_isSupportedBy_69 ?_
        refine lv_iconst (v := 2) hx hb dX4_isSupportedBy_72 (by decide) ?_
        obtain ⟨x9, g10, hf⟩ := bn1_e hf
        have fr := fr_X4_X0_oB o cA oG oB oB
        refine go_i (run_v (As := [.int a1, .int (oG.1 1), .int (oG.1 2), .int 2]) (rest := []) ⟨hx, hb, hml, hown, hts⟩ (k_X0_agrees l D cA tx ty o 7 oB a1 (oG.1 1) (oG.1 2) 2 x9 g10 H.size) (cwV 4 hts gX4_isSupportedBy_X0_agrees rfl rfl rfl hd_X0_agrees ⟨Nat.le_of_ble_eq_true rfl, Nat.le_of_ble_eq_true rfl⟩) fr hw hK hA hZo hZ (ci := 0) rfl rfl rfl rfl hl.1 rfl (Nat.le_of_ble_eq_true rfl) dX4_isSupportedBy_73 ⟨Nat.zero_le _, Nat.zero_le _⟩) fr hw hA (fun H locs hw => ?_)
        refine lv_if_eq (tgt := 83) hx hb dX4_isSupportedBy_76 (by decide) (fun c11 => ?_) (fun c11 => ?_)
        · have hf := if_t c11 hf
          refine lv_iconst (v := 0) hx hb dX4_isSupportedBy_83 (by decide) ?_
          have e0_ := sm1 hf
          exact hret _ _ _ _ _ hw e0_ (Or.inr (Or.inl rfl)) dX4_isSupportedBy_84
        · have hf := if_f c11 hf
          refine lv_iconst (v := 1) hx hb dX4_isSupportedBy_79 (by decide) ?_
          refine lv_goto (tgt := 84) hx hb dX4_isSupportedBy_80 (by decide) ?_
          have e0_ := sm1 hf
          exact hret _ _ _ _ _ hw e0_ (Or.inr (Or.inr rfl)) dX4_isSupportedBy_84
  rw [hH, hlc] at goal
  exact goal
abbrev rmX4_supporters : Room := { frames := 2, cells := 0, slots := 0, locals := 53 }
theorem hd_X4_supporters : yX4_supporters.cls = RX4 ∧ yX4_supporters.cls ≠ "java/lang/invoke/MethodHandle" ∧ yX4_supporters.cls ≠ "java/lang/invoke/VarHandle" ∧ (parseMethodDescriptor yX4_supporters.desc).map (fun d => d.parameters.length) = some 0 := by decide +kernel
set_option maxHeartbeats 4000000 in
set_option maxRecDepth 100000 in
theorem k_X4_supporters (l : Launch) (D : va_G) (cA : ClassId) (tx ty : Nat) (o : Nat → Nat) (oG : St) (oB : St) (r : Int32) (hf : f_X4_supporters oG oB = some (r)) : Mi l yX4_supporters wsX4_supporters rmX4_supporters D cA (z_X tx ty) [.ref (o 12)] (wX4 o cA oG oB) r (wX4 o cA oG oB) := by
  refine Mi.of (cc := cX4_supporters) (maxL := 3) (ret := (some .int)) (plainFor_of_name (by decide)) rfl (Nat.le_of_ble_eq_true rfl) (Or.inl rfl) ?_
  intro p e s m below meth c A Q hx hb hml hown hts hK hA hZ hret ls hl hw
  replace hown : s.vm.findClass RX4 = some m.cls := hown
  have hl : lv_has ls 3 [(0, .ref (o 12))] := hl
  have hZo := z_X_ok tx ty
  have hi0 : ∀ w ∈ wsX00, w ∈ wsX4_supporters := fun w h => List.mem_cons_of_mem _ (List.mem_append_right _ h)
  have hi4 : ∀ w ∈ wsX40, w ∈ wsX4_supporters := fun w h => List.mem_cons_of_mem _ (List.mem_append_left _ (List.mem_append_right _ h))
  have q0 := hts (.fieldLink RX4 7 "ArcRings$Sight" "board" "LArcRings$Board;") (by decide +kernel)
  have q1 := hts (.fieldLink RX4 60 "ArcRings$Board" "dots" "I") (by decide +kernel)
  have h_L4 : ∀ (n : Nat) (v1 : Int32) (v2 : Int32), f_X4_supporters_L4 oG oB n v1 v2 = some (r) → ∀ (H : Heap) (locs : List Loc) (ls : Array Slot), Wd D A s.heap H locs (wX4 o cA oG oB) → lv_has ls 3 [(0, .ref (o 12)), (1, .int v1), (2, .int v2)] → W p l e rmX4_supporters s m ([.ref (o 12)] : List Value).toArray below meth c H locs 0 0 Q (F0 m 4 ls []) := by
    intro n
    induction n with
    | zero =>
      intro v1 v2 hf
      have hf : none = some (r) := hf
      cases hf
    | succ n ih =>
      intro v1 v2 hf H locs ls hw hl
      have hf := (f_X4_supporters_L4_s oG oB n v1 v2).symm.trans hf
      refine lv_iload_n hx hb dX4_supporters_4 rfl (lv_at hl 2 rfl) ?_
      refine lv_aload_n hx hb dX4_supporters_5 rfl (lv_at hl 0 rfl) ?_
      refine w_get hx hb hts hi4 hown hK hw 0 rfl rfl 0 (by decide) q0 rfl (v := .ref (o 7)) rfl dX4_supporters_6 ?_
      refine w_get hx hb hts hi0 hown hK hw 1 rfl rfl 2 (by decide) q1 rfl (v := .int (oB.1 2)) rfl dX4_supporters_9 ?_
      refine lv_icmp_ge (tgt := 35) hx hb dX4_supporters_12 (by decide) (fun c1 => ?_) (fun c1 => ?_)
      · have hf := if_t c1 hf
        refine lv_iload_n hx hb dX4_supporters_35 rfl (lv_at hl 1 rfl) ?_
        have e0_ := sm1 hf
        exact hret _ _ _ _ _ hw e0_ (Or.inl rfl) dX4_supporters_36
      · have hf := if_f c1 hf
        refine lv_aload_n hx hb dX4_supporters_15 rfl (lv_at hl 0 rfl) ?_
        refine lv_iload_n hx hb dX4_supporters_16 rfl (lv_at hl 2 rfl) ?_
        obtain ⟨x2, g3, hf⟩ := bn1_e hf
        have fr := fr_X4_X4_oG_oB o cA oG oB oG oB
        refine go_i (run_v (As := [.int v2]) (rest := []) ⟨hx, hb, hml, hown, hts⟩ (k_X4_isSupportedBy l D cA tx ty o oG oB v2 x2 g3 H.size) (cwV 1 hts gX4_supporters_X4_isSupportedBy rfl rfl rfl hd_X4_isSupportedBy ⟨Nat.le_of_ble_eq_true rfl, Nat.le_of_ble_eq_true rfl⟩) fr hw hK hA hZo hZ (ci := 4) rfl rfl rfl rfl hl.1 rfl (Nat.le_of_ble_eq_true rfl) dX4_supporters_17 ⟨Nat.zero_le _, Nat.zero_le _⟩) fr hw hA (fun H locs hw => ?_)
        refine lv_if_eq (tgt := 29) hx hb dX4_supporters_20 (by decide) (fun c4 => ?_) (fun c4 => ?_)
        · have hf := if_t c4 hf
          refine lv_iinc (v := v2 + 1) (lv' := [(2, .int (v2 + 1)), (0, .ref (o 12)), (1, .int v1)]) hx hb dX4_supporters_29 hl (k := 2) rfl (by rfl) (by decide) rfl (fun ls hl => ?_)
          refine lv_goto (tgt := 4) hx hb dX4_supporters_32 (by decide) ?_
          exact ih v1 (v2 + 1) hf H locs ls hw (lv_sub hl [1, 2, 0] rfl)
        · have hf := if_f c4 hf
          refine lv_iload_n hx hb dX4_supporters_23 rfl (lv_at hl 1 rfl) ?_
          refine lv_iconst (v := 1) hx hb dX4_supporters_24 (by decide) ?_
          refine lv_iload_n hx hb dX4_supporters_25 rfl (lv_at hl 2 rfl) ?_
          refine lv_ishl hx hb dX4_supporters_26 ?_
          refine lv_ior hx hb dX4_supporters_27 ?_
          obtain ⟨y5, e6, hf⟩ := bn1_e hf
          refine w_nmi (sm1 e6) ?_
          refine lv_istore_n (lv' := [(1, .int y5), (0, .ref (o 12)), (2, .int v2)]) hx hb dX4_supporters_28 rfl hl (by decide) rfl (fun ls hl => ?_)
          refine lv_iinc (v := v2 + 1) (lv' := [(2, .int (v2 + 1)), (1, .int y5), (0, .ref (o 12))]) hx hb dX4_supporters_29 hl (k := 2) rfl (by rfl) (by decide) rfl (fun ls hl => ?_)
          refine lv_goto (tgt := 4) hx hb dX4_supporters_32 (by decide) ?_
          exact ih y5 (v2 + 1) hf H locs ls hw (lv_sub hl [2, 1, 0] rfl)
  unfold f_X4_supporters at hf
  obtain ⟨H, hH⟩ : ∃ H, H = s.heap := ⟨_, rfl⟩
  obtain ⟨locs, hlc⟩ : ∃ locs : List Loc, locs = [] := ⟨_, rfl⟩
  have hw : Wd D A s.heap H locs (wX4 o cA oG oB) := by rw [hH, hlc]; exact hw
  have goal : W p l e rmX4_supporters s m ([.ref (o 12)] : List Value).toArray below meth c H locs 0 0 Q (F0 m 0 ls []) := by
    clear hH hlc
    refine lv_iconst (v := 0) hx hb dX4_supporters_0 (by decide) ?_
    refine lv_istore_n (lv' := [(1, .int 0), (0, .ref (o 12))]) hx hb dX4_supporters_1 rfl hl (by decide) rfl (fun ls hl => ?_)
    refine lv_iconst (v := 0) hx hb dX4_supporters_2 (by decide) ?_
    refine lv_istore_n (lv' := [(2, .int 0), (1, .int 0), (0, .ref (o 12))]) hx hb dX4_supporters_3 rfl hl (by decide) rfl (fun ls hl => ?_)
    exact h_L4  _ 0 0 hf H locs ls hw (lv_sub hl [2, 1, 0] rfl)
  rw [hH, hlc] at goal
  exact goal
abbrev rmX4_octant : Room := { frames := 0, cells := 0, slots := 0, locals := 0 }
theorem hd_X4_octant : yX4_octant.cls = RX4 ∧ yX4_octant.cls ≠ "java/lang/invoke/MethodHandle" ∧ yX4_octant.cls ≠ "java/lang/invoke/VarHandle" ∧ (parseMethodDescriptor yX4_octant.desc).map (fun d => d.parameters.length) = some 1 := by decide +kernel
set_option maxHeartbeats 4000000 in
set_option maxRecDepth 100000 in
theorem k_X4_octant (l : Launch) (D : va_G) (cA : ClassId) (tx ty : Nat) (o : Nat → Nat) (oG : St) (oB : St) (a1 : Int32) (r : Int32) (hf : f_X4_octant oG oB a1 = some (r)) : Mi l yX4_octant wsX4_octant rmX4_octant D cA (z_X tx ty) [.ref (o 12), .int a1] (wX4 o cA oG oB) r (wX4 o cA oG oB) := by
  refine Mi.of (cc := cX4_octant) (maxL := 5) (ret := (some .int)) (plainFor_of_name (by decide)) rfl (Nat.le_of_ble_eq_true rfl) (Or.inl rfl) ?_
  intro p e s m below meth c A Q hx hb hml hown hts hK hA hZ hret ls hl hw
  replace hown : s.vm.findClass RX4 = some m.cls := hown
  have hl : lv_has ls 5 [(0, .ref (o 12)), (1, .int a1)] := hl
  have hZo := z_X_ok tx ty
  have hi0 : ∀ w ∈ wsX00, w ∈ wsX4_octant := fun w h => List.mem_cons_of_mem _ (List.mem_append_right _ h)
  have hi4 : ∀ w ∈ wsX40, w ∈ wsX4_octant := fun w h => List.mem_cons_of_mem _ (List.mem_append_left _ (List.mem_append_right _ h))
  have q0 := hts (.fieldLink RX4 7 "ArcRings$Sight" "board" "LArcRings$Board;") (by decide +kernel)
  have q1 := hts (.fieldLink RX4 35 "ArcRings$Board" "xs" "[I") (by decide +kernel)
  have q2 := hts (.fieldLink RX4 19 "ArcRings$Sight" "centreX" "I") (by decide +kernel)
  have q3 := hts (.fieldLink RX4 41 "ArcRings$Board" "ys" "[I") (by decide +kernel)
  have q4 := hts (.fieldLink RX4 26 "ArcRings$Sight" "centreY" "I") (by decide +kernel)
  unfold f_X4_octant at hf
  obtain ⟨H, hH⟩ : ∃ H, H = s.heap := ⟨_, rfl⟩
  obtain ⟨locs, hlc⟩ : ∃ locs : List Loc, locs = [] := ⟨_, rfl⟩
  have hw : Wd D A s.heap H locs (wX4 o cA oG oB) := by rw [hH, hlc]; exact hw
  have goal : W p l e rmX4_octant s m ([.ref (o 12), .int a1] : List Value).toArray below meth c H locs 0 0 Q (F0 m 0 ls []) := by
    clear hH hlc
    refine lv_iconst (v := 2) hx hb dX4_octant_0 (by decide) ?_
    refine lv_aload_n hx hb dX4_octant_1 rfl (lv_at hl 0 rfl) ?_
    refine w_get hx hb hts hi4 hown hK hw 0 rfl rfl 0 (by decide) q0 rfl (v := .ref (o 7)) rfl dX4_octant_2 ?_
    refine w_get hx hb hts hi0 hown hK hw 1 rfl rfl 8 (by decide) q1 rfl (v := .ref (o 8)) rfl dX4_octant_5 ?_
    refine lv_iload_n hx hb dX4_octant_8 rfl (lv_at hl 1 rfl) ?_
    obtain ⟨x1, g2, hf⟩ := bn1_e hf
    refine w_ald hx hb hK hw 2 rfl g2 dX4_octant_9 ?_
    refine lv_imul hx hb dX4_octant_10 ?_
    refine lv_aload_n hx hb dX4_octant_11 rfl (lv_at hl 0 rfl) ?_
    refine w_get hx hb hts hi4 hown hK hw 0 rfl rfl 1 (by decide) q2 rfl (v := .int (oG.1 1)) rfl dX4_octant_12 ?_
    refine lv_isub hx hb dX4_octant_15 ?_
    refine lv_istore_n (lv' := [(2, .int ((2 * x1) - (oG.1 1))), (0, .ref (o 12)), (1, .int a1)]) hx hb dX4_octant_16 rfl hl (by decide) rfl (fun ls hl => ?_)
    refine lv_iconst (v := 2) hx hb dX4_octant_17 (by decide) ?_
    refine lv_aload_n hx hb dX4_octant_18 rfl (lv_at hl 1 rfl) ?_
    refine w_get hx hb hts hi4 hown hK hw 0 rfl rfl 0 (by decide) q0 rfl (v := .ref (o 7)) rfl dX4_octant_19 ?_
    refine w_get hx hb hts hi0 hown hK hw 1 rfl rfl 9 (by decide) q3 rfl (v := .ref (o 9)) rfl dX4_octant_22 ?_
    refine lv_iload_n hx hb dX4_octant_25 rfl (lv_at hl 2 rfl) ?_
    obtain ⟨x3, g4, hf⟩ := bn1_e hf
    refine w_ald hx hb hK hw 3 rfl g4 dX4_octant_26 ?_
    refine lv_imul hx hb dX4_octant_27 ?_
    refine lv_aload_n hx hb dX4_octant_28 rfl (lv_at hl 1 rfl) ?_
    refine w_get hx hb hts hi4 hown hK hw 0 rfl rfl 2 (by decide) q4 rfl (v := .int (oG.1 2)) rfl dX4_octant_29 ?_
    refine lv_isub hx hb dX4_octant_32 ?_
    refine lv_istore_n (lv' := [(3, .int ((2 * x3) - (oG.1 2))), (2, .int ((2 * x1) - (oG.1 1))), (0, .ref (o 12)), (1, .int a1)]) hx hb dX4_octant_33 rfl hl (by decide) rfl (fun ls hl => ?_)
    refine lv_iload_n hx hb dX4_octant_34 rfl (lv_at hl 0 rfl) ?_
    refine lv_if_le (tgt := 50) hx hb dX4_octant_35 (by decide) (fun c5 => ?_) (fun c5 => ?_)
    · have hf := if_t c5 hf
      refine lv_iload_n hx hb dX4_octant_50 rfl (lv_at hl 1 rfl) ?_
      refine lv_if_ge (tgt := 58) hx hb dX4_octant_51 (by decide) (fun c6 => ?_) (fun c6 => ?_)
      · have hf := if_t c6 hf
        refine lv_bipush (v := 6) hx hb dX4_octant_58 (by decide) ?_
        refine lv_istore (lv' := [(4, .int 6), (3, .int ((2 * x3) - (oG.1 2))), (2, .int ((2 * x1) - (oG.1 1))), (0, .ref (o 12)), (1, .int a1)]) hx hb dX4_octant_60 hl (by decide) rfl (fun ls hl => ?_)
        refine lv_iload_n hx hb dX4_octant_62 rfl (lv_at hl 1 rfl) ?_
        refine lv_iload_n hx hb dX4_octant_63 rfl (lv_at hl 1 rfl) ?_
        refine lv_imul hx hb dX4_octant_64 ?_
        refine lv_iload_n hx hb dX4_octant_65 rfl (lv_at hl 2 rfl) ?_
        refine lv_iload_n hx hb dX4_octant_66 rfl (lv_at hl 2 rfl) ?_
        refine lv_imul hx hb dX4_octant_67 ?_
        refine lv_icmp_le (tgt := 78) hx hb dX4_octant_68 (by decide) (fun c7 => ?_) (fun c7 => ?_)
        · have hf := if_t c7 hf
          refine lv_iload hx hb dX4_octant_78 (lv_at hl 0 rfl) ?_
          have e0_ := sm1 hf
          exact hret _ _ _ _ _ hw e0_ (Or.inl rfl) dX4_octant_80
        · have hf := if_f c7 hf
          refine lv_iload hx hb dX4_octant_71 (lv_at hl 0 rfl) ?_
          refine lv_iconst (v := 1) hx hb dX4_octant_73 (by decide) ?_
          refine lv_iadd hx hb dX4_octant_74 ?_
          refine lv_goto (tgt := 80) hx hb dX4_octant_75 (by decide) ?_
          have e0_ := sm1 hf
          exact hret _ _ _ _ _ hw e0_ (Or.inl rfl) dX4_octant_80
      · have hf := if_f c6 hf
        refine lv_iconst (v := 4) hx hb dX4_octant_54 (by decide) ?_
        refine lv_goto (tgt := 60) hx hb dX4_octant_55 (by decide) ?_
        refine lv_istore (lv' := [(4, .int 4), (3, .int ((2 * x3) - (oG.1 2))), (2, .int ((2 * x1) - (oG.1 1))), (0, .ref (o 12)), (1, .int a1)]) hx hb dX4_octant_60 hl (by decide) rfl (fun ls hl => ?_)
        refine lv_iload_n hx hb dX4_octant_62 rfl (lv_at hl 1 rfl) ?_
        refine lv_iload_n hx hb dX4_octant_63 rfl (lv_at hl 1 rfl) ?_
        refine lv_imul hx hb dX4_octant_64 ?_
        refine lv_iload_n hx hb dX4_octant_65 rfl (lv_at hl 2 rfl) ?_
        refine lv_iload_n hx hb dX4_octant_66 rfl (lv_at hl 2 rfl) ?_
        refine lv_imul hx hb dX4_octant_67 ?_
        refine lv_icmp_le (tgt := 78) hx hb dX4_octant_68 (by decide) (fun c8 => ?_) (fun c8 => ?_)
        · have hf := if_t c8 hf
          refine lv_iload hx hb dX4_octant_78 (lv_at hl 0 rfl) ?_
          have e0_ := sm1 hf
          exact hret _ _ _ _ _ hw e0_ (Or.inl rfl) dX4_octant_80
        · have hf := if_f c8 hf
          refine lv_iload hx hb dX4_octant_71 (lv_at hl 0 rfl) ?_
          refine lv_iconst (v := 1) hx hb dX4_octant_73 (by decide) ?_
          refine lv_iadd hx hb dX4_octant_74 ?_
          refine lv_goto (tgt := 80) hx hb dX4_octant_75 (by decide) ?_
          have e0_ := sm1 hf
          exact hret _ _ _ _ _ hw e0_ (Or.inl rfl) dX4_octant_80
    · have hf := if_f c5 hf
      refine lv_iload_n hx hb dX4_octant_38 rfl (lv_at hl 1 rfl) ?_
      refine lv_if_le (tgt := 46) hx hb dX4_octant_39 (by decide) (fun c9 => ?_) (fun c9 => ?_)
      · have hf := if_t c9 hf
        refine lv_iconst (v := 2) hx hb dX4_octant_46 (by decide) ?_
        refine lv_goto (tgt := 60) hx hb dX4_octant_47 (by decide) ?_
        refine lv_istore (lv' := [(4, .int 2), (3, .int ((2 * x3) - (oG.1 2))), (2, .int ((2 * x1) - (oG.1 1))), (0, .ref (o 12)), (1, .int a1)]) hx hb dX4_octant_60 hl (by decide) rfl (fun ls hl => ?_)
        refine lv_iload_n hx hb dX4_octant_62 rfl (lv_at hl 1 rfl) ?_
        refine lv_iload_n hx hb dX4_octant_63 rfl (lv_at hl 1 rfl) ?_
        refine lv_imul hx hb dX4_octant_64 ?_
        refine lv_iload_n hx hb dX4_octant_65 rfl (lv_at hl 2 rfl) ?_
        refine lv_iload_n hx hb dX4_octant_66 rfl (lv_at hl 2 rfl) ?_
        refine lv_imul hx hb dX4_octant_67 ?_
        refine lv_icmp_le (tgt := 78) hx hb dX4_octant_68 (by decide) (fun c10 => ?_) (fun c10 => ?_)
        · have hf := if_t c10 hf
          refine lv_iload hx hb dX4_octant_78 (lv_at hl 0 rfl) ?_
          have e0_ := sm1 hf
          exact hret _ _ _ _ _ hw e0_ (Or.inl rfl) dX4_octant_80
        · have hf := if_f c10 hf
          refine lv_iload hx hb dX4_octant_71 (lv_at hl 0 rfl) ?_
          refine lv_iconst (v := 1) hx hb dX4_octant_73 (by decide) ?_
          refine lv_iadd hx hb dX4_octant_74 ?_
          refine lv_goto (tgt := 80) hx hb dX4_octant_75 (by decide) ?_
          have e0_ := sm1 hf
          exact hret _ _ _ _ _ hw e0_ (Or.inl rfl) dX4_octant_80
      · have hf := if_f c9 hf
        refine lv_iconst (v := 0) hx hb dX4_octant_42 (by decide) ?_
        refine lv_goto (tgt := 60) hx hb dX4_octant_43 (by decide) ?_
        refine lv_istore (lv' := [(4, .int 0), (3, .int ((2 * x3) - (oG.1 2))), (2, .int ((2 * x1) - (oG.1 1))), (0, .ref (o 12)), (1, .int a1)]) hx hb dX4_octant_60 hl (by decide) rfl (fun ls hl => ?_)
        refine lv_iload_n hx hb dX4_octant_62 rfl (lv_at hl 1 rfl) ?_
        refine lv_iload_n hx hb dX4_octant_63 rfl (lv_at hl 1 rfl) ?_
        refine lv_imul hx hb dX4_octant_64 ?_
        refine lv_iload_n hx hb dX4_octant_65 rfl (lv_at hl 2 rfl) ?_
        refine lv_iload_n hx hb dX4_octant_66 rfl (lv_at hl 2 rfl) ?_
        refine lv_imul hx hb dX4_octant_67 ?_
        refine lv_icmp_le (tgt := 78) hx hb dX4_octant_68 (by decide) (fun c11 => ?_) (fun c11 => ?_)
        · have hf := if_t c11 hf
          refine lv_iload hx hb dX4_octant_78 (lv_at hl 0 rfl) ?_
          have e0_ := sm1 hf
          exact hret _ _ _ _ _ hw e0_ (Or.inl rfl) dX4_octant_80
        · have hf := if_f c11 hf
          refine lv_iload hx hb dX4_octant_71 (lv_at hl 0 rfl) ?_
          refine lv_iconst (v := 1) hx hb dX4_octant_73 (by decide) ?_
          refine lv_iadd hx hb dX4_octant_74 ?_
          refine lv_goto (tgt := 80) hx hb dX4_octant_75 (by decide) ?_
          have e0_ := sm1 hf
          exact hret _ _ _ _ _ hw e0_ (Or.inl rfl) dX4_octant_80
  rw [hH, hlc] at goal
  exact goal
abbrev rmX4_span : Room := { frames := 1, cells := 0, slots := 0, locals := 24 }
theorem hd_X4_span : yX4_span.cls = RX4 ∧ yX4_span.cls ≠ "java/lang/invoke/MethodHandle" ∧ yX4_span.cls ≠ "java/lang/invoke/VarHandle" ∧ (parseMethodDescriptor yX4_span.desc).map (fun d => d.parameters.length) = some 1 := by decide +kernel
set_option maxHeartbeats 4000000 in
set_option maxRecDepth 100000 in
theorem k_X4_span (l : Launch) (D : va_G) (cA : ClassId) (tx ty : Nat) (o : Nat → Nat) (oG : St) (oB : St) (a1 : Int32) (r : Int32) (hf : f_X4_span oG oB a1 = some (r)) : Mi l yX4_span wsX4_span rmX4_span D cA (z_X tx ty) [.ref (o 12), .int a1] (wX4 o cA oG oB) r (wX4 o cA oG oB) := by
  refine Mi.of (cc := cX4_span) (maxL := 4) (ret := (some .int)) (plainFor_of_name (by decide)) rfl (Nat.le_of_ble_eq_true rfl) (Or.inl rfl) ?_
  intro p e s m below meth c A Q hx hb hml hown hts hK hA hZ hret ls hl hw
  replace hown : s.vm.findClass RX4 = some m.cls := hown
  have hl : lv_has ls 4 [(0, .ref (o 12)), (1, .int a1)] := hl
  have hZo := z_X_ok tx ty
  have hi0 : ∀ w ∈ wsX00, w ∈ wsX4_span := fun w h => List.mem_cons_of_mem _ (List.mem_append_right _ h)
  have hi4 : ∀ w ∈ wsX40, w ∈ wsX4_span := fun w h => List.mem_cons_of_mem _ (List.mem_append_left _ (List.mem_append_right _ h))
  have q0 := hts (.fieldLink RX4 7 "ArcRings$Sight" "board" "LArcRings$Board;") (by decide +kernel)
  have q1 := hts (.fieldLink RX4 60 "ArcRings$Board" "dots" "I") (by decide +kernel)
  have h_L4 : ∀ (v1 : Int32), ∀ (n : Nat) (v2 : Int32) (v3 : Int32), f_X4_span_L4 oG oB v1 n v2 v3 = some (r) → ∀ (H : Heap) (locs : List Loc) (ls : Array Slot), Wd D A s.heap H locs (wX4 o cA oG oB) → lv_has ls 4 [(0, .ref (o 12)), (1, .int v1), (2, .int v2), (3, .int v3)] → W p l e rmX4_span s m ([.ref (o 12), .int a1] : List Value).toArray below meth c H locs 0 0 Q (F0 m 4 ls []) := by
    intro v1 n
    induction n with
    | zero =>
      intro v2 v3 hf
      have hf : none = some (r) := hf
      cases hf
    | succ n ih =>
      intro v2 v3 hf H locs ls hw hl
      have hf := (f_X4_span_L4_s oG oB v1 n v2 v3).symm.trans hf
      refine lv_iload_n hx hb dX4_span_4 rfl (lv_at hl 3 rfl) ?_
      refine lv_aload_n hx hb dX4_span_5 rfl (lv_at hl 0 rfl) ?_
      refine w_get hx hb hts hi4 hown hK hw 0 rfl rfl 0 (by decide) q0 rfl (v := .ref (o 7)) rfl dX4_span_6 ?_
      refine w_get hx hb hts hi0 hown hK hw 1 rfl rfl 2 (by decide) q1 rfl (v := .int (oB.1 2)) rfl dX4_span_9 ?_
      refine lv_icmp_ge (tgt := 40) hx hb dX4_span_12 (by decide) (fun c1 => ?_) (fun c1 => ?_)
      · have hf := if_t c1 hf
        refine lv_iload_n hx hb dX4_span_40 rfl (lv_at hl 2 rfl) ?_
        obtain ⟨x2, g3, hf⟩ := bn1_e hf
        have fr := fr_X4_S o cA oG oB
        refine go_i (run_s (As := [.int v2]) (rest := []) ⟨hx, hb, hml, hown, hts⟩ (k_J6_bitCount_0f7a4 l D cA v2 x2 g3 H.size) (va_cwS 1 hts gX4_span_J6_bitCount_0f7a4 rfl rfl rfl hd_J6_bitCount_0f7a4 ⟨Nat.le_of_ble_eq_true rfl, Nat.le_of_ble_eq_true rfl⟩) fr hw hK hA rfl hl.1 rfl (Nat.le_of_ble_eq_true rfl) dX4_span_41 ⟨Nat.zero_le _, Nat.zero_le _⟩) fr hw hA (fun H locs hw => ?_)
        have e0_ := sm1 hf
        exact hret _ _ _ _ _ hw e0_ (Or.inl rfl) dX4_span_44
      · have hf := if_f c1 hf
        refine lv_iload_n hx hb dX4_span_15 rfl (lv_at hl 1 rfl) ?_
        refine lv_iload_n hx hb dX4_span_16 rfl (lv_at hl 3 rfl) ?_
        refine lv_ishr hx hb dX4_span_17 ?_
        refine lv_iconst (v := 1) hx hb dX4_span_18 (by decide) ?_
        refine lv_iand hx hb dX4_span_19 ?_
        refine lv_iconst (v := 1) hx hb dX4_span_20 (by decide) ?_
        refine lv_icmp_ne (tgt := 34) hx hb dX4_span_21 (by decide) (fun c4 => ?_) (fun c4 => ?_)
        · have hf := if_f c4 hf
          refine lv_iinc (v := v3 + 1) (lv' := [(3, .int (v3 + 1)), (0, .ref (o 12)), (1, .int v1), (2, .int v2)]) hx hb dX4_span_34 hl (k := 3) rfl (by rfl) (by decide) rfl (fun ls hl => ?_)
          refine lv_goto (tgt := 4) hx hb dX4_span_37 (by decide) ?_
          exact ih v2 (v3 + 1) hf H locs ls hw (lv_sub hl [1, 2, 3, 0] rfl)
        · have hf := if_t c4 hf
          refine lv_iload_n hx hb dX4_span_24 rfl (lv_at hl 2 rfl) ?_
          refine lv_iconst (v := 1) hx hb dX4_span_25 (by decide) ?_
          refine lv_aload_n hx hb dX4_span_26 rfl (lv_at hl 0 rfl) ?_
          refine lv_iload_n hx hb dX4_span_27 rfl (lv_at hl 3 rfl) ?_
          obtain ⟨x5, g6, hf⟩ := bn1_e hf
          have fr := fr_X4_X4_oG_oB o cA oG oB oG oB
          refine go_i (run_v (As := [.int v3]) (rest := [.int 1, .int v2]) ⟨hx, hb, hml, hown, hts⟩ (k_X4_octant l D cA tx ty o oG oB v3 x5 g6 H.size) (cwV 1 hts gX4_span_X4_octant rfl rfl rfl hd_X4_octant ⟨Nat.le_of_ble_eq_true rfl, Nat.le_of_ble_eq_true rfl⟩) fr hw hK hA hZo hZ (ci := 4) rfl rfl rfl rfl hl.1 rfl (Nat.le_of_ble_eq_true rfl) dX4_span_28 ⟨Nat.zero_le _, Nat.zero_le _⟩) fr hw hA (fun H locs hw => ?_)
          refine lv_ishl hx hb dX4_span_31 ?_
          refine lv_ior hx hb dX4_span_32 ?_
          obtain ⟨y7, e8, hf⟩ := bn1_e hf
          refine w_nmi (sm1 e8) ?_
          refine lv_istore_n (lv' := [(2, .int y7), (0, .ref (o 12)), (1, .int v1), (3, .int v3)]) hx hb dX4_span_33 rfl hl (by decide) rfl (fun ls hl => ?_)
          refine lv_iinc (v := v3 + 1) (lv' := [(3, .int (v3 + 1)), (2, .int y7), (0, .ref (o 12)), (1, .int v1)]) hx hb dX4_span_34 hl (k := 3) rfl (by rfl) (by decide) rfl (fun ls hl => ?_)
          refine lv_goto (tgt := 4) hx hb dX4_span_37 (by decide) ?_
          exact ih y7 (v3 + 1) hf H locs ls hw (lv_sub hl [2, 3, 1, 0] rfl)
  unfold f_X4_span at hf
  obtain ⟨H, hH⟩ : ∃ H, H = s.heap := ⟨_, rfl⟩
  obtain ⟨locs, hlc⟩ : ∃ locs : List Loc, locs = [] := ⟨_, rfl⟩
  have hw : Wd D A s.heap H locs (wX4 o cA oG oB) := by rw [hH, hlc]; exact hw
  have goal : W p l e rmX4_span s m ([.ref (o 12), .int a1] : List Value).toArray below meth c H locs 0 0 Q (F0 m 0 ls []) := by
    clear hH hlc
    refine lv_iconst (v := 0) hx hb dX4_span_0 (by decide) ?_
    refine lv_istore_n (lv' := [(2, .int 0), (0, .ref (o 12)), (1, .int a1)]) hx hb dX4_span_1 rfl hl (by decide) rfl (fun ls hl => ?_)
    refine lv_iconst (v := 0) hx hb dX4_span_2 (by decide) ?_
    refine lv_istore_n (lv' := [(3, .int 0), (2, .int 0), (0, .ref (o 12)), (1, .int a1)]) hx hb dX4_span_3 rfl hl (by decide) rfl (fun ls hl => ?_)
    exact h_L4 a1 _ 0 0 hf H locs ls hw (lv_sub hl [2, 3, 1, 0] rfl)
  rw [hH, hlc] at goal
  exact goal
abbrev rmX4_farness : Room := { frames := 1, cells := 0, slots := 0, locals := 23 }
theorem hd_X4_farness : yX4_farness.cls = RX4 ∧ yX4_farness.cls ≠ "java/lang/invoke/MethodHandle" ∧ yX4_farness.cls ≠ "java/lang/invoke/VarHandle" ∧ (parseMethodDescriptor yX4_farness.desc).map (fun d => d.parameters.length) = some 1 := by decide +kernel
set_option maxHeartbeats 4000000 in
set_option maxRecDepth 100000 in
theorem k_X4_farness (l : Launch) (D : va_G) (cA : ClassId) (tx ty : Nat) (o : Nat → Nat) (oG : St) (oB : St) (a1 : Int32) (r : Int32) (hf : f_X4_farness oG oB a1 = some (r)) : Mi l yX4_farness wsX4_farness rmX4_farness D cA (z_X tx ty) [.ref (o 12), .int a1] (wX4 o cA oG oB) r (wX4 o cA oG oB) := by
  refine Mi.of (cc := cX4_farness) (maxL := 3) (ret := (some .int)) (plainFor_of_name (by decide)) rfl (Nat.le_of_ble_eq_true rfl) (Or.inl rfl) ?_
  intro p e s m below meth c A Q hx hb hml hown hts hK hA hZ hret ls hl hw
  replace hown : s.vm.findClass RX4 = some m.cls := hown
  have hl : lv_has ls 3 [(0, .ref (o 12)), (1, .int a1)] := hl
  have hZo := z_X_ok tx ty
  have hi4 : ∀ w ∈ wsX40, w ∈ wsX4_farness := fun w h => List.mem_cons_of_mem _ (List.mem_append_left _ (List.mem_append_right _ h))
  have q0 := hts (.fieldLink RX4 32 "ArcRings$Sight" "radius" "I") (by decide +kernel)
  have q1 := hts (.methodLink RX4 67 Lib.Math.abs.name) (by decide +kernel)
  have q2 := hts (.static Lib.Math.abs.name) (by decide +kernel)
  have q3 := hts (.initialized "java/lang/Math") (by decide +kernel)
  have q4 := hts (.code Lib.Math.abs.name Lib.Math.abs.code 1 (some .int)) (by decide +kernel)
  unfold f_X4_farness at hf
  obtain ⟨H, hH⟩ : ∃ H, H = s.heap := ⟨_, rfl⟩
  obtain ⟨locs, hlc⟩ : ∃ locs : List Loc, locs = [] := ⟨_, rfl⟩
  have hw : Wd D A s.heap H locs (wX4 o cA oG oB) := by rw [hH, hlc]; exact hw
  have goal : W p l e rmX4_farness s m ([.ref (o 12), .int a1] : List Value).toArray below meth c H locs 0 0 Q (F0 m 0 ls []) := by
    clear hH hlc
    refine lv_iconst (v := 2) hx hb dX4_farness_0 (by decide) ?_
    refine lv_aload_n hx hb dX4_farness_1 rfl (lv_at hl 0 rfl) ?_
    refine w_get hx hb hts hi4 hown hK hw 0 rfl rfl 3 (by decide) q0 rfl (v := .int (oG.1 3)) rfl dX4_farness_2 ?_
    refine lv_imul hx hb dX4_farness_5 ?_
    refine lv_iconst (v := 1) hx hb dX4_farness_6 (by decide) ?_
    refine lv_iadd hx hb dX4_farness_7 ?_
    refine lv_istore_n (lv' := [(2, .int ((2 * (oG.1 3)) + 1)), (0, .ref (o 12)), (1, .int a1)]) hx hb dX4_farness_8 rfl hl (by decide) rfl (fun ls hl => ?_)
    refine lv_aload_n hx hb dX4_farness_9 rfl (lv_at hl 1 rfl) ?_
    refine lv_iload_n hx hb dX4_farness_10 rfl (lv_at hl 2 rfl) ?_
    obtain ⟨x1, g2, hf⟩ := bn1_e hf
    have fr := fr_X4_X4_oG_oB o cA oG oB oG oB
    refine go_i (run_v (As := [.int a1]) (rest := []) ⟨hx, hb, hml, hown, hts⟩ (k_X4_squared l D cA tx ty o oG oB a1 x1 g2 H.size) (cwV 1 hts gX4_farness_X4_squared rfl rfl rfl hd_X4_squared ⟨Nat.le_of_ble_eq_true rfl, Nat.le_of_ble_eq_true rfl⟩) fr hw hK hA hZo hZ (ci := 4) rfl rfl rfl rfl hl.1 rfl (Nat.le_of_ble_eq_true rfl) dX4_farness_11 ⟨Nat.zero_le _, Nat.zero_le _⟩) fr hw hA (fun H locs hw => ?_)
    refine lv_iload_n hx hb dX4_farness_14 rfl (lv_at hl 0 rfl) ?_
    refine lv_iload_n hx hb dX4_farness_15 rfl (lv_at hl 0 rfl) ?_
    refine lv_imul hx hb dX4_farness_16 ?_
    refine lv_isub hx hb dX4_farness_17 ?_
    refine va_mabs hx hb (hml.trans hl.1.symm) hown q1 q2 q3 q4 (Nat.le_of_ble_eq_true rfl) (Nat.le_of_ble_eq_true rfl) (Nat.zero_le _) (Nat.zero_le _) dX4_farness_18 ?_
    have e0_ := sm1 hf
    exact hret _ _ _ _ _ hw e0_ (Or.inl rfl) dX4_farness_21
  rw [hH, hlc] at goal
  exact goal
