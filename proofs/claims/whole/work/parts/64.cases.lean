abbrev wL (o u : Nat → Nat) (cA : ClassId) (oX oP oD oR oT oB oC oG oM : St) : va_W := wX6 o cA oX oP oD oR oT oB oC oG ++ wX7 u cA oM
set_option maxRecDepth 100000 in
theorem fr_L6 (o u : Nat → Nat) (cA : ClassId) (oX oP oD oR oT oB oC oG oM oX' oP' oD' oR' oT' oB' oC' oG' : St) : Fr (wL o u cA oX oP oD oR oT oB oC oG oM) (wX6 o cA oX oP oD oR oT oB oC oG) (wX6 o cA oX' oP' oD' oR' oT' oB' oC' oG') (wL o u cA oX' oP' oD' oR' oT' oB' oC' oG' oM) [0, 1, 2, 3, 4, 5, 6, 7, 8, 9, 10, 11, 12, 13, 14, 15, 16, 17, 18, 19] [20, 21, 22, 23, 24, 25, 26, 27, 28, 29, 30, 31, 32, 33, 34, 35, 36] [17, 18, 19, 20, 21, 22, 23, 24, 25, 26, 27, 28, 29, 30, 31, 32, 33, 34, 35, 36, 0, 1, 2, 3, 4, 5, 6, 7, 8, 9, 10, 11, 12, 13, 14, 15, 16] := ⟨rfl, rfl, rfl, rfl, by decide, rfl, rfl⟩
set_option maxRecDepth 100000 in
theorem fr_L7 (o u : Nat → Nat) (cA : ClassId) (oX oP oD oR oT oB oC oG oM oM' : St) : Fr (wL o u cA oX oP oD oR oT oB oC oG oM) (wX7 u cA oM) (wX7 u cA oM') (wL o u cA oX oP oD oR oT oB oC oG oM') [20, 21, 22, 23, 24, 25, 26, 27, 28, 29, 30, 31, 32, 33, 34, 35, 36] [0, 1, 2, 3, 4, 5, 6, 7, 8, 9, 10, 11, 12, 13, 14, 15, 16, 17, 18, 19] [0, 1, 2, 3, 4, 5, 6, 7, 8, 9, 10, 11, 12, 13, 14, 15, 16, 17, 18, 19, 20, 21, 22, 23, 24, 25, 26, 27, 28, 29, 30, 31, 32, 33, 34, 35, 36] := ⟨rfl, rfl, rfl, rfl, by decide, rfl, rfl⟩
theorem REL.kn {oX oP oR oT' oB oM oM' : St} {n : Nat} (h1 : wB oB n) (h2 : mB oM oB n) (h4 : pgR oP oM) (h5 : RR oR oM n) (h6 : oX.1 6 = oM.1 4) (h7 : oX.1 7 = oM.1 16) (h8 : oX.1 8 = oM.1 17) (hk : kM oM oM') (hT : fT oT' oB n) : REL oX oP oR oT' oB oM' := by
  refine ⟨n, h1, h2.k hk, hT, h4.k hk, h5.k hk, ?_, ?_, ?_⟩
  · rw [(hk 4 (by omega)).1]; exact h6
  · rw [(hk 16 (by omega)).1]; exact h7
  · rw [(hk 17 (by omega)).1]; exact h8
theorem lg_same (r : Int64) : lg_cmp r r = 0 := by
  unfold lg_cmp
  rw [if_neg (fun h => Int64.lt_irrefl h), if_pos rfl]
set_option maxHeartbeats 4000000 in
set_option maxRecDepth 100000 in
theorem law_letter {p : Program} {l : Launch} {e : Env} {s : State} {m : MethodId} {below : List Frame} {meth : Method} {c : Code} {D : va_G} {cA : ClassId} {tx ty : Nat} {o u : Nat → Nat} {b L : Nat} {xs : Nat → Int32} (C0 : lw_At p s m meth c b L xs) (hK : va_K D vwCl [(cA, .int)] s) (hZ : z_X tx ty (fun q : Nat => s.heap.size ≤ q) s s.heap) {x3 : Int32} (h1 : vp_in (x3 + 1) L) (h2 : vp_in (x3 + 2) L) (h3 : vp_in (x3 + 3) L) (h4 : vp_in (x3 + 4) L) {oX oP oD oR oT oB oC oG oM : St} (h : REL oX oP oR oT oB oM) {H : Heap} {locs : List Loc} {ls : Array Slot} (hw : Wd D (fun q : Nat => s.heap.size ≤ q) s.heap H locs (wL o u cA oX oP oD oR oT oB oC oG oM)) (hl : lv_has ls 4 [(0, .ref b), (1, .ref (o 0)), (2, .ref (u 0)), (3, .int x3)])
    (kk : ∀ (oX oP oD oR oT oB oC oG oM : St) (H : Heap) (locs : List Loc), REL oX oP oR oT oB oM → Wd D (fun q : Nat => s.heap.size ≤ q) s.heap H locs (wL o u cA oX oP oD oR oT oB oC oG oM) → W p l e room_1 s m #[Value.ref b] below meth c H locs 37 3001 (lw_Z below #[Value.ref b] s) (F0 m 780 ls [])) : W p l e room_1 s m #[Value.ref b] below meth c H locs 37 3001 (lw_Z below #[Value.ref b] s) (F0 m 140 ls []) := by
  obtain ⟨hx, hb, hr, hml, hown, hts0, hX, hbl, hlocks, hgv⟩ := C0
  have hts : ∀ w ∈ lw_tbl, w.before #[Value.ref b] s = true := hts0
  replace hown : s.vm.findClass RL = some m.cls := hown
  have hA : ∀ q : Nat, s.heap.size ≤ q → (fun q : Nat => s.heap.size ≤ q) q := fun _ h => h
  have hbA : ¬ (fun q : Nat => s.heap.size ≤ q) b := Nat.not_le.mpr hbl
  obtain ⟨r, oP1, oM1, g1, g2, h⟩ := op_letter h (xs (x3 + 1).toNatClampNeg)
  refine lv_aload_n hx hb dL_law_140 rfl (lv_at hl 1 rfl) ?_
  refine lv_aload_n hx hb dL_law_141 rfl (lv_at hl 0 rfl) ?_
  refine lv_iload_n hx hb dL_law_142 rfl (lv_at hl 3 rfl) ?_
  refine lv_iconst (v := 1) hx hb dL_law_143 (by decide) ?_
  refine lv_iadd hx hb dL_law_144 ?_
  refine va_sld hx hb hX hbl hbA hw.2.2 h1 dL_law_145 ?_
  have fr := fr_L6 o u cA oX oP oD oR oT oB oC oG oM oX oP1 oD oR oT oB oC oG
  refine go_i (run_v (As := [.int (xs (x3 + 1).toNatClampNeg)]) (rest := []) ⟨hx, hb, hml, hown, hts⟩ (k_X6_letter l D cA tx ty o oX oP oD oR oT oB oC oG (xs (x3 + 1).toNatClampNeg) r oP1 g1 H.size) (cwV 1 hts gL_law_X6_letter rfl rfl rfl hd_X6_letter ⟨Nat.le_of_ble_eq_true rfl, Nat.le_of_ble_eq_true rfl⟩) fr hw hK hA (z_X_ok tx ty) hZ (ci := 6) rfl rfl rfl rfl hl.1 rfl (Nat.le_of_ble_eq_true rfl) dL_law_146 ⟨Nat.le_of_ble_eq_true rfl, Nat.le_of_ble_eq_true rfl⟩) fr hw hA (fun H locs hw => ?_)
  refine lv_aload_n hx hb dL_law_149 rfl (lv_at hl 2 rfl) ?_
  refine lv_aload_n hx hb dL_law_150 rfl (lv_at hl 0 rfl) ?_
  refine lv_iload_n hx hb dL_law_151 rfl (lv_at hl 3 rfl) ?_
  refine lv_iconst (v := 1) hx hb dL_law_152 (by decide) ?_
  refine lv_iadd hx hb dL_law_153 ?_
  refine va_sld hx hb hX hbl hbA hw.2.2 h1 dL_law_154 ?_
  have fr := fr_L7 o u cA oX oP1 oD oR oT oB oC oG oM oM1
  refine go_i (run_v (As := [.int (xs (x3 + 1).toNatClampNeg)]) (rest := [.int r]) ⟨hx, hb, hml, hown, hts⟩ (k_X7_letter l D cA u oM (xs (x3 + 1).toNatClampNeg) r oM1 g2 H.size) (cwV 1 hts gL_law_X7_letter rfl rfl rfl hd_X7_letter ⟨Nat.le_of_ble_eq_true rfl, Nat.le_of_ble_eq_true rfl⟩) fr hw hK hA z_0_ok trivial (ci := 7) rfl rfl rfl rfl hl.1 rfl (Nat.le_of_ble_eq_true rfl) dL_law_155 ⟨Nat.le_of_ble_eq_true rfl, Nat.le_of_ble_eq_true rfl⟩) fr hw hA (fun H locs hw => ?_)
  exact lv_icmp_eq (tgt := 780) hx hb dL_law_158 (by decide) (fun _ => kk oX oP1 oD oR oT oB oC oG oM1 H locs h hw) (fun c1 => absurd rfl c1)
set_option maxHeartbeats 4000000 in
set_option maxRecDepth 100000 in
theorem law_blank {p : Program} {l : Launch} {e : Env} {s : State} {m : MethodId} {below : List Frame} {meth : Method} {c : Code} {D : va_G} {cA : ClassId} {tx ty : Nat} {o u : Nat → Nat} {b L : Nat} {xs : Nat → Int32} (C0 : lw_At p s m meth c b L xs) (hK : va_K D vwCl [(cA, .int)] s) (hZ : z_X tx ty (fun q : Nat => s.heap.size ≤ q) s s.heap) {x3 : Int32} (h1 : vp_in (x3 + 1) L) (h2 : vp_in (x3 + 2) L) (h3 : vp_in (x3 + 3) L) (h4 : vp_in (x3 + 4) L) {oX oP oD oR oT oB oC oG oM : St} (h : REL oX oP oR oT oB oM) {H : Heap} {locs : List Loc} {ls : Array Slot} (hw : Wd D (fun q : Nat => s.heap.size ≤ q) s.heap H locs (wL o u cA oX oP oD oR oT oB oC oG oM)) (hl : lv_has ls 4 [(0, .ref b), (1, .ref (o 0)), (2, .ref (u 0)), (3, .int x3)])
    (kk : ∀ (oX oP oD oR oT oB oC oG oM : St) (H : Heap) (locs : List Loc), REL oX oP oR oT oB oM → Wd D (fun q : Nat => s.heap.size ≤ q) s.heap H locs (wL o u cA oX oP oD oR oT oB oC oG oM) → W p l e room_1 s m #[Value.ref b] below meth c H locs 37 3001 (lw_Z below #[Value.ref b] s) (F0 m 780 ls [])) : W p l e room_1 s m #[Value.ref b] below meth c H locs 37 3001 (lw_Z below #[Value.ref b] s) (F0 m 163 ls []) := by
  obtain ⟨hx, hb, hr, hml, hown, hts0, hX, hbl, hlocks, hgv⟩ := C0
  have hts : ∀ w ∈ lw_tbl, w.before #[Value.ref b] s = true := hts0
  replace hown : s.vm.findClass RL = some m.cls := hown
  have hA : ∀ q : Nat, s.heap.size ≤ q → (fun q : Nat => s.heap.size ≤ q) q := fun _ h => h
  have hbA : ¬ (fun q : Nat => s.heap.size ≤ q) b := Nat.not_le.mpr hbl
  obtain ⟨r, oP1, oM1, g1, g2, h⟩ := op_blank h 
  refine lv_aload_n hx hb dL_law_163 rfl (lv_at hl 1 rfl) ?_
  have fr := fr_L6 o u cA oX oP oD oR oT oB oC oG oM oX oP1 oD oR oT oB oC oG
  refine go_i (run_v (As := []) (rest := []) ⟨hx, hb, hml, hown, hts⟩ (k_X6_blank l D cA tx ty o oX oP oD oR oT oB oC oG  r oP1 g1 H.size) (cwV 0 hts gL_law_X6_blank rfl rfl rfl hd_X6_blank ⟨Nat.le_of_ble_eq_true rfl, Nat.le_of_ble_eq_true rfl⟩) fr hw hK hA (z_X_ok tx ty) hZ (ci := 6) rfl rfl rfl rfl hl.1 rfl (Nat.le_of_ble_eq_true rfl) dL_law_164 ⟨Nat.le_of_ble_eq_true rfl, Nat.le_of_ble_eq_true rfl⟩) fr hw hA (fun H locs hw => ?_)
  refine lv_aload_n hx hb dL_law_167 rfl (lv_at hl 2 rfl) ?_
  have fr := fr_L7 o u cA oX oP1 oD oR oT oB oC oG oM oM1
  refine go_i (run_v (As := []) (rest := [.int r]) ⟨hx, hb, hml, hown, hts⟩ (k_X7_blank l D cA u oM  r oM1 g2 H.size) (cwV 0 hts gL_law_X7_blank rfl rfl rfl hd_X7_blank ⟨Nat.le_of_ble_eq_true rfl, Nat.le_of_ble_eq_true rfl⟩) fr hw hK hA z_0_ok trivial (ci := 7) rfl rfl rfl rfl hl.1 rfl (Nat.le_of_ble_eq_true rfl) dL_law_168 ⟨Nat.le_of_ble_eq_true rfl, Nat.le_of_ble_eq_true rfl⟩) fr hw hA (fun H locs hw => ?_)
  exact lv_icmp_eq (tgt := 780) hx hb dL_law_171 (by decide) (fun _ => kk oX oP1 oD oR oT oB oC oG oM1 H locs h hw) (fun c1 => absurd rfl c1)
set_option maxHeartbeats 4000000 in
set_option maxRecDepth 100000 in
theorem law_fault {p : Program} {l : Launch} {e : Env} {s : State} {m : MethodId} {below : List Frame} {meth : Method} {c : Code} {D : va_G} {cA : ClassId} {tx ty : Nat} {o u : Nat → Nat} {b L : Nat} {xs : Nat → Int32} (C0 : lw_At p s m meth c b L xs) (hK : va_K D vwCl [(cA, .int)] s) (hZ : z_X tx ty (fun q : Nat => s.heap.size ≤ q) s s.heap) {x3 : Int32} (h1 : vp_in (x3 + 1) L) (h2 : vp_in (x3 + 2) L) (h3 : vp_in (x3 + 3) L) (h4 : vp_in (x3 + 4) L) {oX oP oD oR oT oB oC oG oM : St} (h : REL oX oP oR oT oB oM) {H : Heap} {locs : List Loc} {ls : Array Slot} (hw : Wd D (fun q : Nat => s.heap.size ≤ q) s.heap H locs (wL o u cA oX oP oD oR oT oB oC oG oM)) (hl : lv_has ls 4 [(0, .ref b), (1, .ref (o 0)), (2, .ref (u 0)), (3, .int x3)])
    (kk : ∀ (oX oP oD oR oT oB oC oG oM : St) (H : Heap) (locs : List Loc), REL oX oP oR oT oB oM → Wd D (fun q : Nat => s.heap.size ≤ q) s.heap H locs (wL o u cA oX oP oD oR oT oB oC oG oM) → W p l e room_1 s m #[Value.ref b] below meth c H locs 37 3001 (lw_Z below #[Value.ref b] s) (F0 m 780 ls [])) : W p l e room_1 s m #[Value.ref b] below meth c H locs 37 3001 (lw_Z below #[Value.ref b] s) (F0 m 176 ls []) := by
  obtain ⟨hx, hb, hr, hml, hown, hts0, hX, hbl, hlocks, hgv⟩ := C0
  have hts : ∀ w ∈ lw_tbl, w.before #[Value.ref b] s = true := hts0
  replace hown : s.vm.findClass RL = some m.cls := hown
  have hA : ∀ q : Nat, s.heap.size ≤ q → (fun q : Nat => s.heap.size ≤ q) q := fun _ h => h
  have hbA : ¬ (fun q : Nat => s.heap.size ≤ q) b := Nat.not_le.mpr hbl
  obtain ⟨r, oP1, oD1, oM1, g1, g2, h⟩ := op_fault h oD
  refine lv_aload_n hx hb dL_law_176 rfl (lv_at hl 1 rfl) ?_
  have fr := fr_L6 o u cA oX oP oD oR oT oB oC oG oM oX oP1 oD1 oR oT oB oC oG
  refine go_i (run_v (As := []) (rest := []) ⟨hx, hb, hml, hown, hts⟩ (k_X6_fault l D cA tx ty o oX oP oD oR oT oB oC oG  r oP1 oD1 g1 H.size) (cwV 0 hts gL_law_X6_fault rfl rfl rfl hd_X6_fault ⟨Nat.le_of_ble_eq_true rfl, Nat.le_of_ble_eq_true rfl⟩) fr hw hK hA (z_X_ok tx ty) hZ (ci := 6) rfl rfl rfl rfl hl.1 rfl (Nat.le_of_ble_eq_true rfl) dL_law_177 ⟨Nat.le_of_ble_eq_true rfl, Nat.le_of_ble_eq_true rfl⟩) fr hw hA (fun H locs hw => ?_)
  refine lv_aload_n hx hb dL_law_180 rfl (lv_at hl 2 rfl) ?_
  have fr := fr_L7 o u cA oX oP1 oD1 oR oT oB oC oG oM oM1
  refine go_i (run_v (As := []) (rest := [.int r]) ⟨hx, hb, hml, hown, hts⟩ (k_X7_fault l D cA u oM  r oM1 g2 H.size) (cwV 0 hts gL_law_X7_fault rfl rfl rfl hd_X7_fault ⟨Nat.le_of_ble_eq_true rfl, Nat.le_of_ble_eq_true rfl⟩) fr hw hK hA z_0_ok trivial (ci := 7) rfl rfl rfl rfl hl.1 rfl (Nat.le_of_ble_eq_true rfl) dL_law_181 ⟨Nat.le_of_ble_eq_true rfl, Nat.le_of_ble_eq_true rfl⟩) fr hw hA (fun H locs hw => ?_)
  exact lv_icmp_eq (tgt := 780) hx hb dL_law_184 (by decide) (fun _ => kk oX oP1 oD1 oR oT oB oC oG oM1 H locs h hw) (fun c1 => absurd rfl c1)
set_option maxHeartbeats 4000000 in
set_option maxRecDepth 100000 in
theorem law_sheet {p : Program} {l : Launch} {e : Env} {s : State} {m : MethodId} {below : List Frame} {meth : Method} {c : Code} {D : va_G} {cA : ClassId} {tx ty : Nat} {o u : Nat → Nat} {b L : Nat} {xs : Nat → Int32} (C0 : lw_At p s m meth c b L xs) (hK : va_K D vwCl [(cA, .int)] s) (hZ : z_X tx ty (fun q : Nat => s.heap.size ≤ q) s s.heap) {x3 : Int32} (h1 : vp_in (x3 + 1) L) (h2 : vp_in (x3 + 2) L) (h3 : vp_in (x3 + 3) L) (h4 : vp_in (x3 + 4) L) {oX oP oD oR oT oB oC oG oM : St} (h : REL oX oP oR oT oB oM) {H : Heap} {locs : List Loc} {ls : Array Slot} (hw : Wd D (fun q : Nat => s.heap.size ≤ q) s.heap H locs (wL o u cA oX oP oD oR oT oB oC oG oM)) (hl : lv_has ls 4 [(0, .ref b), (1, .ref (o 0)), (2, .ref (u 0)), (3, .int x3)])
    (kk : ∀ (oX oP oD oR oT oB oC oG oM : St) (H : Heap) (locs : List Loc), REL oX oP oR oT oB oM → Wd D (fun q : Nat => s.heap.size ≤ q) s.heap H locs (wL o u cA oX oP oD oR oT oB oC oG oM) → W p l e room_1 s m #[Value.ref b] below meth c H locs 37 3001 (lw_Z below #[Value.ref b] s) (F0 m 780 ls [])) : W p l e room_1 s m #[Value.ref b] below meth c H locs 37 3001 (lw_Z below #[Value.ref b] s) (F0 m 189 ls []) := by
  obtain ⟨hx, hb, hr, hml, hown, hts0, hX, hbl, hlocks, hgv⟩ := C0
  have hts : ∀ w ∈ lw_tbl, w.before #[Value.ref b] s = true := hts0
  replace hown : s.vm.findClass RL = some m.cls := hown
  have hA : ∀ q : Nat, s.heap.size ≤ q → (fun q : Nat => s.heap.size ≤ q) q := fun _ h => h
  have hbA : ¬ (fun q : Nat => s.heap.size ≤ q) b := Nat.not_le.mpr hbl
  obtain ⟨r, oX1, oP1, oD1, oR1, oT1, oB1, oM1, g1, g2, h⟩ := op_sheet h oD
  refine lv_aload_n hx hb dL_law_189 rfl (lv_at hl 1 rfl) ?_
  have fr := fr_L6 o u cA oX oP oD oR oT oB oC oG oM oX1 oP1 oD1 oR1 oT1 oB1 oC oG
  refine go_i (run_v (As := []) (rest := []) ⟨hx, hb, hml, hown, hts⟩ (k_X6_sheet l D cA tx ty o oX oP oD oR oT oB oC oG  r oX1 oP1 oD1 oR1 oT1 oB1 g1 H.size) (cwV 0 hts gL_law_X6_sheet rfl rfl rfl hd_X6_sheet ⟨Nat.le_of_ble_eq_true rfl, Nat.le_of_ble_eq_true rfl⟩) fr hw hK hA (z_X_ok tx ty) hZ (ci := 6) rfl rfl rfl rfl hl.1 rfl (Nat.le_of_ble_eq_true rfl) dL_law_190 ⟨Nat.le_of_ble_eq_true rfl, Nat.le_of_ble_eq_true rfl⟩) fr hw hA (fun H locs hw => ?_)
  refine lv_aload_n hx hb dL_law_193 rfl (lv_at hl 2 rfl) ?_
  have fr := fr_L7 o u cA oX1 oP1 oD1 oR1 oT1 oB1 oC oG oM oM1
  refine go_i (run_v (As := []) (rest := [.int r]) ⟨hx, hb, hml, hown, hts⟩ (k_X7_sheet l D cA u oM  r oM1 g2 H.size) (cwV 0 hts gL_law_X7_sheet rfl rfl rfl hd_X7_sheet ⟨Nat.le_of_ble_eq_true rfl, Nat.le_of_ble_eq_true rfl⟩) fr hw hK hA z_0_ok trivial (ci := 7) rfl rfl rfl rfl hl.1 rfl (Nat.le_of_ble_eq_true rfl) dL_law_194 ⟨Nat.le_of_ble_eq_true rfl, Nat.le_of_ble_eq_true rfl⟩) fr hw hA (fun H locs hw => ?_)
  exact lv_icmp_eq (tgt := 780) hx hb dL_law_197 (by decide) (fun _ => kk oX1 oP1 oD1 oR1 oT1 oB1 oC oG oM1 H locs h hw) (fun c1 => absurd rfl c1)
set_option maxHeartbeats 4000000 in
set_option maxRecDepth 100000 in
theorem law_ink {p : Program} {l : Launch} {e : Env} {s : State} {m : MethodId} {below : List Frame} {meth : Method} {c : Code} {D : va_G} {cA : ClassId} {tx ty : Nat} {o u : Nat → Nat} {b L : Nat} {xs : Nat → Int32} (C0 : lw_At p s m meth c b L xs) (hK : va_K D vwCl [(cA, .int)] s) (hZ : z_X tx ty (fun q : Nat => s.heap.size ≤ q) s s.heap) {x3 : Int32} (h1 : vp_in (x3 + 1) L) (h2 : vp_in (x3 + 2) L) (h3 : vp_in (x3 + 3) L) (h4 : vp_in (x3 + 4) L) {oX oP oD oR oT oB oC oG oM : St} (h : REL oX oP oR oT oB oM) {H : Heap} {locs : List Loc} {ls : Array Slot} (hw : Wd D (fun q : Nat => s.heap.size ≤ q) s.heap H locs (wL o u cA oX oP oD oR oT oB oC oG oM)) (hl : lv_has ls 4 [(0, .ref b), (1, .ref (o 0)), (2, .ref (u 0)), (3, .int x3)])
    (kk : ∀ (oX oP oD oR oT oB oC oG oM : St) (H : Heap) (locs : List Loc), REL oX oP oR oT oB oM → Wd D (fun q : Nat => s.heap.size ≤ q) s.heap H locs (wL o u cA oX oP oD oR oT oB oC oG oM) → W p l e room_1 s m #[Value.ref b] below meth c H locs 37 3001 (lw_Z below #[Value.ref b] s) (F0 m 780 ls [])) : W p l e room_1 s m #[Value.ref b] below meth c H locs 37 3001 (lw_Z below #[Value.ref b] s) (F0 m 202 ls []) := by
  obtain ⟨hx, hb, hr, hml, hown, hts0, hX, hbl, hlocks, hgv⟩ := C0
  have hts : ∀ w ∈ lw_tbl, w.before #[Value.ref b] s = true := hts0
  replace hown : s.vm.findClass RL = some m.cls := hown
  have hA : ∀ q : Nat, s.heap.size ≤ q → (fun q : Nat => s.heap.size ≤ q) q := fun _ h => h
  have hbA : ¬ (fun q : Nat => s.heap.size ≤ q) b := Nat.not_le.mpr hbl
  obtain ⟨r, oM1, g1, g2, hk⟩ := op_ink h (xs (x3 + 1).toNatClampNeg)
  have h := REL.k h hk (fun _ _ _ q => q)
  refine lv_aload_n hx hb dL_law_202 rfl (lv_at hl 1 rfl) ?_
  refine lv_aload_n hx hb dL_law_203 rfl (lv_at hl 0 rfl) ?_
  refine lv_iload_n hx hb dL_law_204 rfl (lv_at hl 3 rfl) ?_
  refine lv_iconst (v := 1) hx hb dL_law_205 (by decide) ?_
  refine lv_iadd hx hb dL_law_206 ?_
  refine va_sld hx hb hX hbl hbA hw.2.2 h1 dL_law_207 ?_
  have fr := fr_L6 o u cA oX oP oD oR oT oB oC oG oM oX oP oD oR oT oB oC oG
  refine go_i (run_v (As := [.int (xs (x3 + 1).toNatClampNeg)]) (rest := []) ⟨hx, hb, hml, hown, hts⟩ (k_X6_ink l D cA tx ty o oX oP oD oR oT oB oC oG (xs (x3 + 1).toNatClampNeg) r  g1 H.size) (cwV 1 hts gL_law_X6_ink rfl rfl rfl hd_X6_ink ⟨Nat.le_of_ble_eq_true rfl, Nat.le_of_ble_eq_true rfl⟩) fr hw hK hA (z_X_ok tx ty) hZ (ci := 6) rfl rfl rfl rfl hl.1 rfl (Nat.le_of_ble_eq_true rfl) dL_law_208 ⟨Nat.le_of_ble_eq_true rfl, Nat.le_of_ble_eq_true rfl⟩) fr hw hA (fun H locs hw => ?_)
  refine lv_aload_n hx hb dL_law_211 rfl (lv_at hl 2 rfl) ?_
  refine lv_aload_n hx hb dL_law_212 rfl (lv_at hl 0 rfl) ?_
  refine lv_iload_n hx hb dL_law_213 rfl (lv_at hl 3 rfl) ?_
  refine lv_iconst (v := 1) hx hb dL_law_214 (by decide) ?_
  refine lv_iadd hx hb dL_law_215 ?_
  refine va_sld hx hb hX hbl hbA hw.2.2 h1 dL_law_216 ?_
  have fr := fr_L7 o u cA oX oP oD oR oT oB oC oG oM oM1
  refine go_i (run_v (As := [.int (xs (x3 + 1).toNatClampNeg)]) (rest := [.int r]) ⟨hx, hb, hml, hown, hts⟩ (k_X7_ink l D cA u oM (xs (x3 + 1).toNatClampNeg) r oM1 g2 H.size) (cwV 1 hts gL_law_X7_ink rfl rfl rfl hd_X7_ink ⟨Nat.le_of_ble_eq_true rfl, Nat.le_of_ble_eq_true rfl⟩) fr hw hK hA z_0_ok trivial (ci := 7) rfl rfl rfl rfl hl.1 rfl (Nat.le_of_ble_eq_true rfl) dL_law_217 ⟨Nat.le_of_ble_eq_true rfl, Nat.le_of_ble_eq_true rfl⟩) fr hw hA (fun H locs hw => ?_)
  exact lv_icmp_eq (tgt := 780) hx hb dL_law_220 (by decide) (fun _ => kk oX oP oD oR oT oB oC oG oM1 H locs h hw) (fun c1 => absurd rfl c1)
set_option maxHeartbeats 4000000 in
set_option maxRecDepth 100000 in
theorem law_dot {p : Program} {l : Launch} {e : Env} {s : State} {m : MethodId} {below : List Frame} {meth : Method} {c : Code} {D : va_G} {cA : ClassId} {tx ty : Nat} {o u : Nat → Nat} {b L : Nat} {xs : Nat → Int32} (C0 : lw_At p s m meth c b L xs) (hK : va_K D vwCl [(cA, .int)] s) (hZ : z_X tx ty (fun q : Nat => s.heap.size ≤ q) s s.heap) {x3 : Int32} (h1 : vp_in (x3 + 1) L) (h2 : vp_in (x3 + 2) L) (h3 : vp_in (x3 + 3) L) (h4 : vp_in (x3 + 4) L) {oX oP oD oR oT oB oC oG oM : St} (h : REL oX oP oR oT oB oM) {H : Heap} {locs : List Loc} {ls : Array Slot} (hw : Wd D (fun q : Nat => s.heap.size ≤ q) s.heap H locs (wL o u cA oX oP oD oR oT oB oC oG oM)) (hl : lv_has ls 4 [(0, .ref b), (1, .ref (o 0)), (2, .ref (u 0)), (3, .int x3)])
    (kk : ∀ (oX oP oD oR oT oB oC oG oM : St) (H : Heap) (locs : List Loc), REL oX oP oR oT oB oM → Wd D (fun q : Nat => s.heap.size ≤ q) s.heap H locs (wL o u cA oX oP oD oR oT oB oC oG oM) → W p l e room_1 s m #[Value.ref b] below meth c H locs 37 3001 (lw_Z below #[Value.ref b] s) (F0 m 780 ls [])) : W p l e room_1 s m #[Value.ref b] below meth c H locs 37 3001 (lw_Z below #[Value.ref b] s) (F0 m 225 ls []) := by
  obtain ⟨hx, hb, hr, hml, hown, hts0, hX, hbl, hlocks, hgv⟩ := C0
  have hts : ∀ w ∈ lw_tbl, w.before #[Value.ref b] s = true := hts0
  replace hown : s.vm.findClass RL = some m.cls := hown
  have hA : ∀ q : Nat, s.heap.size ≤ q → (fun q : Nat => s.heap.size ≤ q) q := fun _ h => h
  have hbA : ¬ (fun q : Nat => s.heap.size ≤ q) b := Nat.not_le.mpr hbl
  obtain ⟨r, oR1, oT1, oB1, oM1, g1, g2, h⟩ := op_dot h (xs (x3 + 1).toNatClampNeg) (xs (x3 + 2).toNatClampNeg) (xs (x3 + 3).toNatClampNeg)
  refine lv_aload_n hx hb dL_law_225 rfl (lv_at hl 1 rfl) ?_
  refine lv_aload_n hx hb dL_law_226 rfl (lv_at hl 0 rfl) ?_
  refine lv_iload_n hx hb dL_law_227 rfl (lv_at hl 3 rfl) ?_
  refine lv_iconst (v := 1) hx hb dL_law_228 (by decide) ?_
  refine lv_iadd hx hb dL_law_229 ?_
  refine va_sld hx hb hX hbl hbA hw.2.2 h1 dL_law_230 ?_
  refine lv_aload_n hx hb dL_law_231 rfl (lv_at hl 0 rfl) ?_
  refine lv_iload_n hx hb dL_law_232 rfl (lv_at hl 3 rfl) ?_
  refine lv_iconst (v := 2) hx hb dL_law_233 (by decide) ?_
  refine lv_iadd hx hb dL_law_234 ?_
  refine va_sld hx hb hX hbl hbA hw.2.2 h2 dL_law_235 ?_
  refine lv_aload_n hx hb dL_law_236 rfl (lv_at hl 0 rfl) ?_
  refine lv_iload_n hx hb dL_law_237 rfl (lv_at hl 3 rfl) ?_
  refine lv_iconst (v := 3) hx hb dL_law_238 (by decide) ?_
  refine lv_iadd hx hb dL_law_239 ?_
  refine va_sld hx hb hX hbl hbA hw.2.2 h3 dL_law_240 ?_
  have fr := fr_L6 o u cA oX oP oD oR oT oB oC oG oM oX oP oD oR1 oT1 oB1 oC oG
  refine go_i (run_v (As := [.int (xs (x3 + 1).toNatClampNeg), .int (xs (x3 + 2).toNatClampNeg), .int (xs (x3 + 3).toNatClampNeg)]) (rest := []) ⟨hx, hb, hml, hown, hts⟩ (k_X6_dot l D cA tx ty o oX oP oD oR oT oB oC oG (xs (x3 + 1).toNatClampNeg) (xs (x3 + 2).toNatClampNeg) (xs (x3 + 3).toNatClampNeg) r oR1 oT1 oB1 g1 H.size) (cwV 3 hts gL_law_X6_dot rfl rfl rfl hd_X6_dot ⟨Nat.le_of_ble_eq_true rfl, Nat.le_of_ble_eq_true rfl⟩) fr hw hK hA (z_X_ok tx ty) hZ (ci := 6) rfl rfl rfl rfl hl.1 rfl (Nat.le_of_ble_eq_true rfl) dL_law_241 ⟨Nat.le_of_ble_eq_true rfl, Nat.le_of_ble_eq_true rfl⟩) fr hw hA (fun H locs hw => ?_)
  refine lv_aload_n hx hb dL_law_244 rfl (lv_at hl 2 rfl) ?_
  refine lv_aload_n hx hb dL_law_245 rfl (lv_at hl 0 rfl) ?_
  refine lv_iload_n hx hb dL_law_246 rfl (lv_at hl 3 rfl) ?_
  refine lv_iconst (v := 1) hx hb dL_law_247 (by decide) ?_
  refine lv_iadd hx hb dL_law_248 ?_
  refine va_sld hx hb hX hbl hbA hw.2.2 h1 dL_law_249 ?_
  refine lv_aload_n hx hb dL_law_250 rfl (lv_at hl 0 rfl) ?_
  refine lv_iload_n hx hb dL_law_251 rfl (lv_at hl 3 rfl) ?_
  refine lv_iconst (v := 2) hx hb dL_law_252 (by decide) ?_
  refine lv_iadd hx hb dL_law_253 ?_
  refine va_sld hx hb hX hbl hbA hw.2.2 h2 dL_law_254 ?_
  refine lv_aload_n hx hb dL_law_255 rfl (lv_at hl 0 rfl) ?_
  refine lv_iload_n hx hb dL_law_256 rfl (lv_at hl 3 rfl) ?_
  refine lv_iconst (v := 3) hx hb dL_law_257 (by decide) ?_
  refine lv_iadd hx hb dL_law_258 ?_
  refine va_sld hx hb hX hbl hbA hw.2.2 h3 dL_law_259 ?_
  have fr := fr_L7 o u cA oX oP oD oR1 oT1 oB1 oC oG oM oM1
  refine go_i (run_v (As := [.int (xs (x3 + 1).toNatClampNeg), .int (xs (x3 + 2).toNatClampNeg), .int (xs (x3 + 3).toNatClampNeg)]) (rest := [.int r]) ⟨hx, hb, hml, hown, hts⟩ (k_X7_dot l D cA u oM (xs (x3 + 1).toNatClampNeg) (xs (x3 + 2).toNatClampNeg) (xs (x3 + 3).toNatClampNeg) r oM1 g2 H.size) (cwV 3 hts gL_law_X7_dot rfl rfl rfl hd_X7_dot ⟨Nat.le_of_ble_eq_true rfl, Nat.le_of_ble_eq_true rfl⟩) fr hw hK hA z_0_ok trivial (ci := 7) rfl rfl rfl rfl hl.1 rfl (Nat.le_of_ble_eq_true rfl) dL_law_260 ⟨Nat.le_of_ble_eq_true rfl, Nat.le_of_ble_eq_true rfl⟩) fr hw hA (fun H locs hw => ?_)
  exact lv_icmp_eq (tgt := 780) hx hb dL_law_263 (by decide) (fun _ => kk oX oP oD oR1 oT1 oB1 oC oG oM1 H locs h hw) (fun c1 => absurd rfl c1)
set_option maxHeartbeats 4000000 in
set_option maxRecDepth 100000 in
theorem law_lift {p : Program} {l : Launch} {e : Env} {s : State} {m : MethodId} {below : List Frame} {meth : Method} {c : Code} {D : va_G} {cA : ClassId} {tx ty : Nat} {o u : Nat → Nat} {b L : Nat} {xs : Nat → Int32} (C0 : lw_At p s m meth c b L xs) (hK : va_K D vwCl [(cA, .int)] s) (hZ : z_X tx ty (fun q : Nat => s.heap.size ≤ q) s s.heap) {x3 : Int32} (h1 : vp_in (x3 + 1) L) (h2 : vp_in (x3 + 2) L) (h3 : vp_in (x3 + 3) L) (h4 : vp_in (x3 + 4) L) {oX oP oD oR oT oB oC oG oM : St} (h : REL oX oP oR oT oB oM) {H : Heap} {locs : List Loc} {ls : Array Slot} (hw : Wd D (fun q : Nat => s.heap.size ≤ q) s.heap H locs (wL o u cA oX oP oD oR oT oB oC oG oM)) (hl : lv_has ls 4 [(0, .ref b), (1, .ref (o 0)), (2, .ref (u 0)), (3, .int x3)])
    (kk : ∀ (oX oP oD oR oT oB oC oG oM : St) (H : Heap) (locs : List Loc), REL oX oP oR oT oB oM → Wd D (fun q : Nat => s.heap.size ≤ q) s.heap H locs (wL o u cA oX oP oD oR oT oB oC oG oM) → W p l e room_1 s m #[Value.ref b] below meth c H locs 37 3001 (lw_Z below #[Value.ref b] s) (F0 m 780 ls [])) : W p l e room_1 s m #[Value.ref b] below meth c H locs 37 3001 (lw_Z below #[Value.ref b] s) (F0 m 268 ls []) := by
  obtain ⟨hx, hb, hr, hml, hown, hts0, hX, hbl, hlocks, hgv⟩ := C0
  have hts : ∀ w ∈ lw_tbl, w.before #[Value.ref b] s = true := hts0
  replace hown : s.vm.findClass RL = some m.cls := hown
  have hA : ∀ q : Nat, s.heap.size ≤ q → (fun q : Nat => s.heap.size ≤ q) q := fun _ h => h
  have hbA : ¬ (fun q : Nat => s.heap.size ≤ q) b := Nat.not_le.mpr hbl
  obtain ⟨r, oR1, oT1, oB1, oM1, g1, g2, h⟩ := op_lift h (xs (x3 + 1).toNatClampNeg)
  refine lv_aload_n hx hb dL_law_268 rfl (lv_at hl 1 rfl) ?_
  refine lv_aload_n hx hb dL_law_269 rfl (lv_at hl 0 rfl) ?_
  refine lv_iload_n hx hb dL_law_270 rfl (lv_at hl 3 rfl) ?_
  refine lv_iconst (v := 1) hx hb dL_law_271 (by decide) ?_
  refine lv_iadd hx hb dL_law_272 ?_
  refine va_sld hx hb hX hbl hbA hw.2.2 h1 dL_law_273 ?_
  have fr := fr_L6 o u cA oX oP oD oR oT oB oC oG oM oX oP oD oR1 oT1 oB1 oC oG
  refine go_i (run_v (As := [.int (xs (x3 + 1).toNatClampNeg)]) (rest := []) ⟨hx, hb, hml, hown, hts⟩ (k_X6_lift l D cA tx ty o oX oP oD oR oT oB oC oG (xs (x3 + 1).toNatClampNeg) r oR1 oT1 oB1 g1 H.size) (cwV 1 hts gL_law_X6_lift rfl rfl rfl hd_X6_lift ⟨Nat.le_of_ble_eq_true rfl, Nat.le_of_ble_eq_true rfl⟩) fr hw hK hA (z_X_ok tx ty) hZ (ci := 6) rfl rfl rfl rfl hl.1 rfl (Nat.le_of_ble_eq_true rfl) dL_law_274 ⟨Nat.le_of_ble_eq_true rfl, Nat.le_of_ble_eq_true rfl⟩) fr hw hA (fun H locs hw => ?_)
  refine lv_aload_n hx hb dL_law_277 rfl (lv_at hl 2 rfl) ?_
  refine lv_aload_n hx hb dL_law_278 rfl (lv_at hl 0 rfl) ?_
  refine lv_iload_n hx hb dL_law_279 rfl (lv_at hl 3 rfl) ?_
  refine lv_iconst (v := 1) hx hb dL_law_280 (by decide) ?_
  refine lv_iadd hx hb dL_law_281 ?_
  refine va_sld hx hb hX hbl hbA hw.2.2 h1 dL_law_282 ?_
  have fr := fr_L7 o u cA oX oP oD oR1 oT1 oB1 oC oG oM oM1
  refine go_i (run_v (As := [.int (xs (x3 + 1).toNatClampNeg)]) (rest := [.int r]) ⟨hx, hb, hml, hown, hts⟩ (k_X7_lift l D cA u oM (xs (x3 + 1).toNatClampNeg) r oM1 g2 H.size) (cwV 1 hts gL_law_X7_lift rfl rfl rfl hd_X7_lift ⟨Nat.le_of_ble_eq_true rfl, Nat.le_of_ble_eq_true rfl⟩) fr hw hK hA z_0_ok trivial (ci := 7) rfl rfl rfl rfl hl.1 rfl (Nat.le_of_ble_eq_true rfl) dL_law_283 ⟨Nat.le_of_ble_eq_true rfl, Nat.le_of_ble_eq_true rfl⟩) fr hw hA (fun H locs hw => ?_)
  exact lv_icmp_eq (tgt := 780) hx hb dL_law_286 (by decide) (fun _ => kk oX oP oD oR1 oT1 oB1 oC oG oM1 H locs h hw) (fun c1 => absurd rfl c1)
set_option maxHeartbeats 4000000 in
set_option maxRecDepth 100000 in
theorem law_arc {p : Program} {l : Launch} {e : Env} {s : State} {m : MethodId} {below : List Frame} {meth : Method} {c : Code} {D : va_G} {cA : ClassId} {tx ty : Nat} {o u : Nat → Nat} {b L : Nat} {xs : Nat → Int32} (C0 : lw_At p s m meth c b L xs) (hK : va_K D vwCl [(cA, .int)] s) (hZ : z_X tx ty (fun q : Nat => s.heap.size ≤ q) s s.heap) {x3 : Int32} (h1 : vp_in (x3 + 1) L) (h2 : vp_in (x3 + 2) L) (h3 : vp_in (x3 + 3) L) (h4 : vp_in (x3 + 4) L) {oX oP oD oR oT oB oC oG oM : St} (h : REL oX oP oR oT oB oM) {H : Heap} {locs : List Loc} {ls : Array Slot} (hw : Wd D (fun q : Nat => s.heap.size ≤ q) s.heap H locs (wL o u cA oX oP oD oR oT oB oC oG oM)) (hl : lv_has ls 4 [(0, .ref b), (1, .ref (o 0)), (2, .ref (u 0)), (3, .int x3)])
    (kk : ∀ (oX oP oD oR oT oB oC oG oM : St) (H : Heap) (locs : List Loc), REL oX oP oR oT oB oM → Wd D (fun q : Nat => s.heap.size ≤ q) s.heap H locs (wL o u cA oX oP oD oR oT oB oC oG oM) → W p l e room_1 s m #[Value.ref b] below meth c H locs 37 3001 (lw_Z below #[Value.ref b] s) (F0 m 780 ls [])) : W p l e room_1 s m #[Value.ref b] below meth c H locs 37 3001 (lw_Z below #[Value.ref b] s) (F0 m 291 ls []) := by
  obtain ⟨hx, hb, hr, hml, hown, hts0, hX, hbl, hlocks, hgv⟩ := C0
  have hts : ∀ w ∈ lw_tbl, w.before #[Value.ref b] s = true := hts0
  replace hown : s.vm.findClass RL = some m.cls := hown
  have hA : ∀ q : Nat, s.heap.size ≤ q → (fun q : Nat => s.heap.size ≤ q) q := fun _ h => h
  have hbA : ¬ (fun q : Nat => s.heap.size ≤ q) b := Nat.not_le.mpr hbl
  obtain ⟨r, oR1, oT1, oB1, oM1, g1, g2, h⟩ := op_arc h (xs (x3 + 1).toNatClampNeg) (xs (x3 + 2).toNatClampNeg) (xs (x3 + 3).toNatClampNeg) (xs (x3 + 4).toNatClampNeg)
  refine lv_aload_n hx hb dL_law_291 rfl (lv_at hl 1 rfl) ?_
  refine lv_aload_n hx hb dL_law_292 rfl (lv_at hl 0 rfl) ?_
  refine lv_iload_n hx hb dL_law_293 rfl (lv_at hl 3 rfl) ?_
  refine lv_iconst (v := 1) hx hb dL_law_294 (by decide) ?_
  refine lv_iadd hx hb dL_law_295 ?_
  refine va_sld hx hb hX hbl hbA hw.2.2 h1 dL_law_296 ?_
  refine lv_aload_n hx hb dL_law_297 rfl (lv_at hl 0 rfl) ?_
  refine lv_iload_n hx hb dL_law_298 rfl (lv_at hl 3 rfl) ?_
  refine lv_iconst (v := 2) hx hb dL_law_299 (by decide) ?_
  refine lv_iadd hx hb dL_law_300 ?_
  refine va_sld hx hb hX hbl hbA hw.2.2 h2 dL_law_301 ?_
  refine lv_aload_n hx hb dL_law_302 rfl (lv_at hl 0 rfl) ?_
  refine lv_iload_n hx hb dL_law_303 rfl (lv_at hl 3 rfl) ?_
  refine lv_iconst (v := 3) hx hb dL_law_304 (by decide) ?_
  refine lv_iadd hx hb dL_law_305 ?_
  refine va_sld hx hb hX hbl hbA hw.2.2 h3 dL_law_306 ?_
  refine lv_aload_n hx hb dL_law_307 rfl (lv_at hl 0 rfl) ?_
  refine lv_iload_n hx hb dL_law_308 rfl (lv_at hl 3 rfl) ?_
  refine lv_iconst (v := 4) hx hb dL_law_309 (by decide) ?_
  refine lv_iadd hx hb dL_law_310 ?_
  refine va_sld hx hb hX hbl hbA hw.2.2 h4 dL_law_311 ?_
  have fr := fr_L6 o u cA oX oP oD oR oT oB oC oG oM oX oP oD oR1 oT1 oB1 oC oG
  refine go_i (run_v (As := [.int (xs (x3 + 1).toNatClampNeg), .int (xs (x3 + 2).toNatClampNeg), .int (xs (x3 + 3).toNatClampNeg), .int (xs (x3 + 4).toNatClampNeg)]) (rest := []) ⟨hx, hb, hml, hown, hts⟩ (k_X6_arc l D cA tx ty o oX oP oD oR oT oB oC oG (xs (x3 + 1).toNatClampNeg) (xs (x3 + 2).toNatClampNeg) (xs (x3 + 3).toNatClampNeg) (xs (x3 + 4).toNatClampNeg) r oR1 oT1 oB1 g1 H.size) (cwV 4 hts gL_law_X6_arc rfl rfl rfl hd_X6_arc ⟨Nat.le_of_ble_eq_true rfl, Nat.le_of_ble_eq_true rfl⟩) fr hw hK hA (z_X_ok tx ty) hZ (ci := 6) rfl rfl rfl rfl hl.1 rfl (Nat.le_of_ble_eq_true rfl) dL_law_312 ⟨Nat.le_of_ble_eq_true rfl, Nat.le_of_ble_eq_true rfl⟩) fr hw hA (fun H locs hw => ?_)
  refine lv_aload_n hx hb dL_law_315 rfl (lv_at hl 2 rfl) ?_
  refine lv_aload_n hx hb dL_law_316 rfl (lv_at hl 0 rfl) ?_
  refine lv_iload_n hx hb dL_law_317 rfl (lv_at hl 3 rfl) ?_
  refine lv_iconst (v := 1) hx hb dL_law_318 (by decide) ?_
  refine lv_iadd hx hb dL_law_319 ?_
  refine va_sld hx hb hX hbl hbA hw.2.2 h1 dL_law_320 ?_
  refine lv_aload_n hx hb dL_law_321 rfl (lv_at hl 0 rfl) ?_
  refine lv_iload_n hx hb dL_law_322 rfl (lv_at hl 3 rfl) ?_
  refine lv_iconst (v := 2) hx hb dL_law_323 (by decide) ?_
  refine lv_iadd hx hb dL_law_324 ?_
  refine va_sld hx hb hX hbl hbA hw.2.2 h2 dL_law_325 ?_
  refine lv_aload_n hx hb dL_law_326 rfl (lv_at hl 0 rfl) ?_
  refine lv_iload_n hx hb dL_law_327 rfl (lv_at hl 3 rfl) ?_
  refine lv_iconst (v := 3) hx hb dL_law_328 (by decide) ?_
  refine lv_iadd hx hb dL_law_329 ?_
  refine va_sld hx hb hX hbl hbA hw.2.2 h3 dL_law_330 ?_
  refine lv_aload_n hx hb dL_law_331 rfl (lv_at hl 0 rfl) ?_
  refine lv_iload_n hx hb dL_law_332 rfl (lv_at hl 3 rfl) ?_
  refine lv_iconst (v := 4) hx hb dL_law_333 (by decide) ?_
  refine lv_iadd hx hb dL_law_334 ?_
  refine va_sld hx hb hX hbl hbA hw.2.2 h4 dL_law_335 ?_
  have fr := fr_L7 o u cA oX oP oD oR1 oT1 oB1 oC oG oM oM1
  refine go_i (run_v (As := [.int (xs (x3 + 1).toNatClampNeg), .int (xs (x3 + 2).toNatClampNeg), .int (xs (x3 + 3).toNatClampNeg), .int (xs (x3 + 4).toNatClampNeg)]) (rest := [.int r]) ⟨hx, hb, hml, hown, hts⟩ (k_X7_arc l D cA u oM (xs (x3 + 1).toNatClampNeg) (xs (x3 + 2).toNatClampNeg) (xs (x3 + 3).toNatClampNeg) (xs (x3 + 4).toNatClampNeg) r oM1 g2 H.size) (cwV 4 hts gL_law_X7_arc rfl rfl rfl hd_X7_arc ⟨Nat.le_of_ble_eq_true rfl, Nat.le_of_ble_eq_true rfl⟩) fr hw hK hA z_0_ok trivial (ci := 7) rfl rfl rfl rfl hl.1 rfl (Nat.le_of_ble_eq_true rfl) dL_law_336 ⟨Nat.le_of_ble_eq_true rfl, Nat.le_of_ble_eq_true rfl⟩) fr hw hA (fun H locs hw => ?_)
  exact lv_icmp_eq (tgt := 780) hx hb dL_law_339 (by decide) (fun _ => kk oX oP oD oR1 oT1 oB1 oC oG oM1 H locs h hw) (fun c1 => absurd rfl c1)
set_option maxHeartbeats 4000000 in
set_option maxRecDepth 100000 in
theorem law_strew {p : Program} {l : Launch} {e : Env} {s : State} {m : MethodId} {below : List Frame} {meth : Method} {c : Code} {D : va_G} {cA : ClassId} {tx ty : Nat} {o u : Nat → Nat} {b L : Nat} {xs : Nat → Int32} (C0 : lw_At p s m meth c b L xs) (hK : va_K D vwCl [(cA, .int)] s) (hZ : z_X tx ty (fun q : Nat => s.heap.size ≤ q) s s.heap) {x3 : Int32} (h1 : vp_in (x3 + 1) L) (h2 : vp_in (x3 + 2) L) (h3 : vp_in (x3 + 3) L) (h4 : vp_in (x3 + 4) L) {oX oP oD oR oT oB oC oG oM : St} (h : REL oX oP oR oT oB oM) {H : Heap} {locs : List Loc} {ls : Array Slot} (hw : Wd D (fun q : Nat => s.heap.size ≤ q) s.heap H locs (wL o u cA oX oP oD oR oT oB oC oG oM)) (hl : lv_has ls 4 [(0, .ref b), (1, .ref (o 0)), (2, .ref (u 0)), (3, .int x3)])
    (kk : ∀ (oX oP oD oR oT oB oC oG oM : St) (H : Heap) (locs : List Loc), REL oX oP oR oT oB oM → Wd D (fun q : Nat => s.heap.size ≤ q) s.heap H locs (wL o u cA oX oP oD oR oT oB oC oG oM) → W p l e room_1 s m #[Value.ref b] below meth c H locs 37 3001 (lw_Z below #[Value.ref b] s) (F0 m 780 ls [])) : W p l e room_1 s m #[Value.ref b] below meth c H locs 37 3001 (lw_Z below #[Value.ref b] s) (F0 m 344 ls []) := by
  obtain ⟨hx, hb, hr, hml, hown, hts0, hX, hbl, hlocks, hgv⟩ := C0
  have hts : ∀ w ∈ lw_tbl, w.before #[Value.ref b] s = true := hts0
  replace hown : s.vm.findClass RL = some m.cls := hown
  have hA : ∀ q : Nat, s.heap.size ≤ q → (fun q : Nat => s.heap.size ≤ q) q := fun _ h => h
  have hbA : ¬ (fun q : Nat => s.heap.size ≤ q) b := Nat.not_le.mpr hbl
  obtain ⟨r, oR1, oT1, oB1, oM1, g1, g2, h⟩ := op_strew h (xs (x3 + 1).toNatClampNeg) (xs (x3 + 2).toNatClampNeg)
  refine lv_aload_n hx hb dL_law_344 rfl (lv_at hl 1 rfl) ?_
  refine lv_aload_n hx hb dL_law_345 rfl (lv_at hl 0 rfl) ?_
  refine lv_iload_n hx hb dL_law_346 rfl (lv_at hl 3 rfl) ?_
  refine lv_iconst (v := 1) hx hb dL_law_347 (by decide) ?_
  refine lv_iadd hx hb dL_law_348 ?_
  refine va_sld hx hb hX hbl hbA hw.2.2 h1 dL_law_349 ?_
  refine lv_aload_n hx hb dL_law_350 rfl (lv_at hl 0 rfl) ?_
  refine lv_iload_n hx hb dL_law_351 rfl (lv_at hl 3 rfl) ?_
  refine lv_iconst (v := 2) hx hb dL_law_352 (by decide) ?_
  refine lv_iadd hx hb dL_law_353 ?_
  refine va_sld hx hb hX hbl hbA hw.2.2 h2 dL_law_354 ?_
  have fr := fr_L6 o u cA oX oP oD oR oT oB oC oG oM oX oP oD oR1 oT1 oB1 oC oG
  refine go_i (run_v (As := [.int (xs (x3 + 1).toNatClampNeg), .int (xs (x3 + 2).toNatClampNeg)]) (rest := []) ⟨hx, hb, hml, hown, hts⟩ (k_X6_strew l D cA tx ty o oX oP oD oR oT oB oC oG (xs (x3 + 1).toNatClampNeg) (xs (x3 + 2).toNatClampNeg) r oR1 oT1 oB1 g1 H.size) (cwV 2 hts gL_law_X6_strew rfl rfl rfl hd_X6_strew ⟨Nat.le_of_ble_eq_true rfl, Nat.le_of_ble_eq_true rfl⟩) fr hw hK hA (z_X_ok tx ty) hZ (ci := 6) rfl rfl rfl rfl hl.1 rfl (Nat.le_of_ble_eq_true rfl) dL_law_355 ⟨Nat.le_of_ble_eq_true rfl, Nat.le_of_ble_eq_true rfl⟩) fr hw hA (fun H locs hw => ?_)
  refine lv_aload_n hx hb dL_law_358 rfl (lv_at hl 2 rfl) ?_
  refine lv_aload_n hx hb dL_law_359 rfl (lv_at hl 0 rfl) ?_
  refine lv_iload_n hx hb dL_law_360 rfl (lv_at hl 3 rfl) ?_
  refine lv_iconst (v := 1) hx hb dL_law_361 (by decide) ?_
  refine lv_iadd hx hb dL_law_362 ?_
  refine va_sld hx hb hX hbl hbA hw.2.2 h1 dL_law_363 ?_
  refine lv_aload_n hx hb dL_law_364 rfl (lv_at hl 0 rfl) ?_
  refine lv_iload_n hx hb dL_law_365 rfl (lv_at hl 3 rfl) ?_
  refine lv_iconst (v := 2) hx hb dL_law_366 (by decide) ?_
  refine lv_iadd hx hb dL_law_367 ?_
  refine va_sld hx hb hX hbl hbA hw.2.2 h2 dL_law_368 ?_
  have fr := fr_L7 o u cA oX oP oD oR1 oT1 oB1 oC oG oM oM1
  refine go_i (run_v (As := [.int (xs (x3 + 1).toNatClampNeg), .int (xs (x3 + 2).toNatClampNeg)]) (rest := [.int r]) ⟨hx, hb, hml, hown, hts⟩ (k_X7_strew l D cA u oM (xs (x3 + 1).toNatClampNeg) (xs (x3 + 2).toNatClampNeg) r oM1 g2 H.size) (cwV 2 hts gL_law_X7_strew rfl rfl rfl hd_X7_strew ⟨Nat.le_of_ble_eq_true rfl, Nat.le_of_ble_eq_true rfl⟩) fr hw hK hA z_0_ok trivial (ci := 7) rfl rfl rfl rfl hl.1 rfl (Nat.le_of_ble_eq_true rfl) dL_law_369 ⟨Nat.le_of_ble_eq_true rfl, Nat.le_of_ble_eq_true rfl⟩) fr hw hA (fun H locs hw => ?_)
  exact lv_icmp_eq (tgt := 780) hx hb dL_law_372 (by decide) (fun _ => kk oX oP oD oR1 oT1 oB1 oC oG oM1 H locs h hw) (fun c1 => absurd rfl c1)
set_option maxHeartbeats 4000000 in
set_option maxRecDepth 100000 in
theorem law_told {p : Program} {l : Launch} {e : Env} {s : State} {m : MethodId} {below : List Frame} {meth : Method} {c : Code} {D : va_G} {cA : ClassId} {tx ty : Nat} {o u : Nat → Nat} {b L : Nat} {xs : Nat → Int32} (C0 : lw_At p s m meth c b L xs) (hK : va_K D vwCl [(cA, .int)] s) (hZ : z_X tx ty (fun q : Nat => s.heap.size ≤ q) s s.heap) {x3 : Int32} (h1 : vp_in (x3 + 1) L) (h2 : vp_in (x3 + 2) L) (h3 : vp_in (x3 + 3) L) (h4 : vp_in (x3 + 4) L) {oX oP oD oR oT oB oC oG oM : St} (h : REL oX oP oR oT oB oM) {H : Heap} {locs : List Loc} {ls : Array Slot} (hw : Wd D (fun q : Nat => s.heap.size ≤ q) s.heap H locs (wL o u cA oX oP oD oR oT oB oC oG oM)) (hl : lv_has ls 4 [(0, .ref b), (1, .ref (o 0)), (2, .ref (u 0)), (3, .int x3)])
    (kk : ∀ (oX oP oD oR oT oB oC oG oM : St) (H : Heap) (locs : List Loc), REL oX oP oR oT oB oM → Wd D (fun q : Nat => s.heap.size ≤ q) s.heap H locs (wL o u cA oX oP oD oR oT oB oC oG oM) → W p l e room_1 s m #[Value.ref b] below meth c H locs 37 3001 (lw_Z below #[Value.ref b] s) (F0 m 780 ls [])) : W p l e room_1 s m #[Value.ref b] below meth c H locs 37 3001 (lw_Z below #[Value.ref b] s) (F0 m 377 ls []) := by
  obtain ⟨hx, hb, hr, hml, hown, hts0, hX, hbl, hlocks, hgv⟩ := C0
  have hts : ∀ w ∈ lw_tbl, w.before #[Value.ref b] s = true := hts0
  replace hown : s.vm.findClass RL = some m.cls := hown
  have hA : ∀ q : Nat, s.heap.size ≤ q → (fun q : Nat => s.heap.size ≤ q) q := fun _ h => h
  have hbA : ¬ (fun q : Nat => s.heap.size ≤ q) b := Nat.not_le.mpr hbl
  obtain ⟨r, g1, g2⟩ := op_told h (xs (x3 + 1).toNatClampNeg) (xs (x3 + 2).toNatClampNeg)
  refine lv_aload_n hx hb dL_law_377 rfl (lv_at hl 1 rfl) ?_
  refine lv_aload_n hx hb dL_law_378 rfl (lv_at hl 0 rfl) ?_
  refine lv_iload_n hx hb dL_law_379 rfl (lv_at hl 3 rfl) ?_
  refine lv_iconst (v := 1) hx hb dL_law_380 (by decide) ?_
  refine lv_iadd hx hb dL_law_381 ?_
  refine va_sld hx hb hX hbl hbA hw.2.2 h1 dL_law_382 ?_
  refine lv_aload_n hx hb dL_law_383 rfl (lv_at hl 0 rfl) ?_
  refine lv_iload_n hx hb dL_law_384 rfl (lv_at hl 3 rfl) ?_
  refine lv_iconst (v := 2) hx hb dL_law_385 (by decide) ?_
  refine lv_iadd hx hb dL_law_386 ?_
  refine va_sld hx hb hX hbl hbA hw.2.2 h2 dL_law_387 ?_
  have fr := fr_L6 o u cA oX oP oD oR oT oB oC oG oM oX oP oD oR oT oB oC oG
  refine go_i (run_v (As := [.int (xs (x3 + 1).toNatClampNeg), .int (xs (x3 + 2).toNatClampNeg)]) (rest := []) ⟨hx, hb, hml, hown, hts⟩ (k_X6_told l D cA tx ty o oX oP oD oR oT oB oC oG (xs (x3 + 1).toNatClampNeg) (xs (x3 + 2).toNatClampNeg) r  g1 H.size) (cwV 2 hts gL_law_X6_told rfl rfl rfl hd_X6_told ⟨Nat.le_of_ble_eq_true rfl, Nat.le_of_ble_eq_true rfl⟩) fr hw hK hA (z_X_ok tx ty) hZ (ci := 6) rfl rfl rfl rfl hl.1 rfl (Nat.le_of_ble_eq_true rfl) dL_law_388 ⟨Nat.le_of_ble_eq_true rfl, Nat.le_of_ble_eq_true rfl⟩) fr hw hA (fun H locs hw => ?_)
  refine lv_aload_n hx hb dL_law_391 rfl (lv_at hl 2 rfl) ?_
  refine lv_aload_n hx hb dL_law_392 rfl (lv_at hl 0 rfl) ?_
  refine lv_iload_n hx hb dL_law_393 rfl (lv_at hl 3 rfl) ?_
  refine lv_iconst (v := 1) hx hb dL_law_394 (by decide) ?_
  refine lv_iadd hx hb dL_law_395 ?_
  refine va_sld hx hb hX hbl hbA hw.2.2 h1 dL_law_396 ?_
  refine lv_aload_n hx hb dL_law_397 rfl (lv_at hl 0 rfl) ?_
  refine lv_iload_n hx hb dL_law_398 rfl (lv_at hl 3 rfl) ?_
  refine lv_iconst (v := 2) hx hb dL_law_399 (by decide) ?_
  refine lv_iadd hx hb dL_law_400 ?_
  refine va_sld hx hb hX hbl hbA hw.2.2 h2 dL_law_401 ?_
  have fr := fr_L7 o u cA oX oP oD oR oT oB oC oG oM oM
  refine go_i (run_v (As := [.int (xs (x3 + 1).toNatClampNeg), .int (xs (x3 + 2).toNatClampNeg)]) (rest := [.int r]) ⟨hx, hb, hml, hown, hts⟩ (k_X7_told l D cA u oM (xs (x3 + 1).toNatClampNeg) (xs (x3 + 2).toNatClampNeg) r  g2 H.size) (cwV 2 hts gL_law_X7_told rfl rfl rfl hd_X7_told ⟨Nat.le_of_ble_eq_true rfl, Nat.le_of_ble_eq_true rfl⟩) fr hw hK hA z_0_ok trivial (ci := 7) rfl rfl rfl rfl hl.1 rfl (Nat.le_of_ble_eq_true rfl) dL_law_402 ⟨Nat.le_of_ble_eq_true rfl, Nat.le_of_ble_eq_true rfl⟩) fr hw hA (fun H locs hw => ?_)
  exact lv_icmp_eq (tgt := 780) hx hb dL_law_405 (by decide) (fun _ => kk oX oP oD oR oT oB oC oG oM H locs h hw) (fun c1 => absurd rfl c1)
set_option maxHeartbeats 4000000 in
set_option maxRecDepth 100000 in
theorem law_about {p : Program} {l : Launch} {e : Env} {s : State} {m : MethodId} {below : List Frame} {meth : Method} {c : Code} {D : va_G} {cA : ClassId} {tx ty : Nat} {o u : Nat → Nat} {b L : Nat} {xs : Nat → Int32} (C0 : lw_At p s m meth c b L xs) (hK : va_K D vwCl [(cA, .int)] s) (hZ : z_X tx ty (fun q : Nat => s.heap.size ≤ q) s s.heap) {x3 : Int32} (h1 : vp_in (x3 + 1) L) (h2 : vp_in (x3 + 2) L) (h3 : vp_in (x3 + 3) L) (h4 : vp_in (x3 + 4) L) {oX oP oD oR oT oB oC oG oM : St} (h : REL oX oP oR oT oB oM) {H : Heap} {locs : List Loc} {ls : Array Slot} (hw : Wd D (fun q : Nat => s.heap.size ≤ q) s.heap H locs (wL o u cA oX oP oD oR oT oB oC oG oM)) (hl : lv_has ls 4 [(0, .ref b), (1, .ref (o 0)), (2, .ref (u 0)), (3, .int x3)])
    (kk : ∀ (oX oP oD oR oT oB oC oG oM : St) (H : Heap) (locs : List Loc), REL oX oP oR oT oB oM → Wd D (fun q : Nat => s.heap.size ≤ q) s.heap H locs (wL o u cA oX oP oD oR oT oB oC oG oM) → W p l e room_1 s m #[Value.ref b] below meth c H locs 37 3001 (lw_Z below #[Value.ref b] s) (F0 m 780 ls [])) : W p l e room_1 s m #[Value.ref b] below meth c H locs 37 3001 (lw_Z below #[Value.ref b] s) (F0 m 410 ls []) := by
  obtain ⟨hx, hb, hr, hml, hown, hts0, hX, hbl, hlocks, hgv⟩ := C0
  have hts : ∀ w ∈ lw_tbl, w.before #[Value.ref b] s = true := hts0
  replace hown : s.vm.findClass RL = some m.cls := hown
  have hA : ∀ q : Nat, s.heap.size ≤ q → (fun q : Nat => s.heap.size ≤ q) q := fun _ h => h
  have hbA : ¬ (fun q : Nat => s.heap.size ≤ q) b := Nat.not_le.mpr hbl
  obtain ⟨r, g1, g2⟩ := op_about h (xs (x3 + 1).toNatClampNeg)
  refine lv_aload_n hx hb dL_law_410 rfl (lv_at hl 1 rfl) ?_
  refine lv_aload_n hx hb dL_law_411 rfl (lv_at hl 0 rfl) ?_
  refine lv_iload_n hx hb dL_law_412 rfl (lv_at hl 3 rfl) ?_
  refine lv_iconst (v := 1) hx hb dL_law_413 (by decide) ?_
  refine lv_iadd hx hb dL_law_414 ?_
  refine va_sld hx hb hX hbl hbA hw.2.2 h1 dL_law_415 ?_
  have fr := fr_L6 o u cA oX oP oD oR oT oB oC oG oM oX oP oD oR oT oB oC oG
  refine go_i (run_v (As := [.int (xs (x3 + 1).toNatClampNeg)]) (rest := []) ⟨hx, hb, hml, hown, hts⟩ (k_X6_about l D cA tx ty o oX oP oD oR oT oB oC oG (xs (x3 + 1).toNatClampNeg) r  g1 H.size) (cwV 1 hts gL_law_X6_about rfl rfl rfl hd_X6_about ⟨Nat.le_of_ble_eq_true rfl, Nat.le_of_ble_eq_true rfl⟩) fr hw hK hA (z_X_ok tx ty) hZ (ci := 6) rfl rfl rfl rfl hl.1 rfl (Nat.le_of_ble_eq_true rfl) dL_law_416 ⟨Nat.le_of_ble_eq_true rfl, Nat.le_of_ble_eq_true rfl⟩) fr hw hA (fun H locs hw => ?_)
  refine lv_aload_n hx hb dL_law_419 rfl (lv_at hl 2 rfl) ?_
  refine lv_aload_n hx hb dL_law_420 rfl (lv_at hl 0 rfl) ?_
  refine lv_iload_n hx hb dL_law_421 rfl (lv_at hl 3 rfl) ?_
  refine lv_iconst (v := 1) hx hb dL_law_422 (by decide) ?_
  refine lv_iadd hx hb dL_law_423 ?_
  refine va_sld hx hb hX hbl hbA hw.2.2 h1 dL_law_424 ?_
  have fr := fr_L7 o u cA oX oP oD oR oT oB oC oG oM oM
  refine go_i (run_v (As := [.int (xs (x3 + 1).toNatClampNeg)]) (rest := [.int r]) ⟨hx, hb, hml, hown, hts⟩ (k_X7_about l D cA u oM (xs (x3 + 1).toNatClampNeg) r  g2 H.size) (cwV 1 hts gL_law_X7_about rfl rfl rfl hd_X7_about ⟨Nat.le_of_ble_eq_true rfl, Nat.le_of_ble_eq_true rfl⟩) fr hw hK hA z_0_ok trivial (ci := 7) rfl rfl rfl rfl hl.1 rfl (Nat.le_of_ble_eq_true rfl) dL_law_425 ⟨Nat.le_of_ble_eq_true rfl, Nat.le_of_ble_eq_true rfl⟩) fr hw hA (fun H locs hw => ?_)
  exact lv_icmp_eq (tgt := 780) hx hb dL_law_428 (by decide) (fun _ => kk oX oP oD oR oT oB oC oG oM H locs h hw) (fun c1 => absurd rfl c1)
set_option maxHeartbeats 4000000 in
set_option maxRecDepth 100000 in
theorem law_bound {p : Program} {l : Launch} {e : Env} {s : State} {m : MethodId} {below : List Frame} {meth : Method} {c : Code} {D : va_G} {cA : ClassId} {tx ty : Nat} {o u : Nat → Nat} {b L : Nat} {xs : Nat → Int32} (C0 : lw_At p s m meth c b L xs) (hK : va_K D vwCl [(cA, .int)] s) (hZ : z_X tx ty (fun q : Nat => s.heap.size ≤ q) s s.heap) {x3 : Int32} (h1 : vp_in (x3 + 1) L) (h2 : vp_in (x3 + 2) L) (h3 : vp_in (x3 + 3) L) (h4 : vp_in (x3 + 4) L) {oX oP oD oR oT oB oC oG oM : St} (h : REL oX oP oR oT oB oM) {H : Heap} {locs : List Loc} {ls : Array Slot} (hw : Wd D (fun q : Nat => s.heap.size ≤ q) s.heap H locs (wL o u cA oX oP oD oR oT oB oC oG oM)) (hl : lv_has ls 4 [(0, .ref b), (1, .ref (o 0)), (2, .ref (u 0)), (3, .int x3)])
    (kk : ∀ (oX oP oD oR oT oB oC oG oM : St) (H : Heap) (locs : List Loc), REL oX oP oR oT oB oM → Wd D (fun q : Nat => s.heap.size ≤ q) s.heap H locs (wL o u cA oX oP oD oR oT oB oC oG oM) → W p l e room_1 s m #[Value.ref b] below meth c H locs 37 3001 (lw_Z below #[Value.ref b] s) (F0 m 780 ls [])) : W p l e room_1 s m #[Value.ref b] below meth c H locs 37 3001 (lw_Z below #[Value.ref b] s) (F0 m 433 ls []) := by
  obtain ⟨hx, hb, hr, hml, hown, hts0, hX, hbl, hlocks, hgv⟩ := C0
  have hts : ∀ w ∈ lw_tbl, w.before #[Value.ref b] s = true := hts0
  replace hown : s.vm.findClass RL = some m.cls := hown
  have hA : ∀ q : Nat, s.heap.size ≤ q → (fun q : Nat => s.heap.size ≤ q) q := fun _ h => h
  have hbA : ¬ (fun q : Nat => s.heap.size ≤ q) b := Nat.not_le.mpr hbl
  obtain ⟨r, oR1, oT1, oB1, oM1, g1, g2, h⟩ := op_bound h (xs (x3 + 1).toNatClampNeg) (xs (x3 + 2).toNatClampNeg)
  refine lv_aload_n hx hb dL_law_433 rfl (lv_at hl 1 rfl) ?_
  refine lv_aload_n hx hb dL_law_434 rfl (lv_at hl 0 rfl) ?_
  refine lv_iload_n hx hb dL_law_435 rfl (lv_at hl 3 rfl) ?_
  refine lv_iconst (v := 1) hx hb dL_law_436 (by decide) ?_
  refine lv_iadd hx hb dL_law_437 ?_
  refine va_sld hx hb hX hbl hbA hw.2.2 h1 dL_law_438 ?_
  refine lv_aload_n hx hb dL_law_439 rfl (lv_at hl 0 rfl) ?_
  refine lv_iload_n hx hb dL_law_440 rfl (lv_at hl 3 rfl) ?_
  refine lv_iconst (v := 2) hx hb dL_law_441 (by decide) ?_
  refine lv_iadd hx hb dL_law_442 ?_
  refine va_sld hx hb hX hbl hbA hw.2.2 h2 dL_law_443 ?_
  have fr := fr_L6 o u cA oX oP oD oR oT oB oC oG oM oX oP oD oR1 oT1 oB1 oC oG
  refine go_i (run_v (As := [.int (xs (x3 + 1).toNatClampNeg), .int (xs (x3 + 2).toNatClampNeg)]) (rest := []) ⟨hx, hb, hml, hown, hts⟩ (k_X6_bound l D cA tx ty o oX oP oD oR oT oB oC oG (xs (x3 + 1).toNatClampNeg) (xs (x3 + 2).toNatClampNeg) r oR1 oT1 oB1 g1 H.size) (cwV 2 hts gL_law_X6_bound rfl rfl rfl hd_X6_bound ⟨Nat.le_of_ble_eq_true rfl, Nat.le_of_ble_eq_true rfl⟩) fr hw hK hA (z_X_ok tx ty) hZ (ci := 6) rfl rfl rfl rfl hl.1 rfl (Nat.le_of_ble_eq_true rfl) dL_law_444 ⟨Nat.le_of_ble_eq_true rfl, Nat.le_of_ble_eq_true rfl⟩) fr hw hA (fun H locs hw => ?_)
  refine lv_aload_n hx hb dL_law_447 rfl (lv_at hl 2 rfl) ?_
  refine lv_aload_n hx hb dL_law_448 rfl (lv_at hl 0 rfl) ?_
  refine lv_iload_n hx hb dL_law_449 rfl (lv_at hl 3 rfl) ?_
  refine lv_iconst (v := 1) hx hb dL_law_450 (by decide) ?_
  refine lv_iadd hx hb dL_law_451 ?_
  refine va_sld hx hb hX hbl hbA hw.2.2 h1 dL_law_452 ?_
  refine lv_aload_n hx hb dL_law_453 rfl (lv_at hl 0 rfl) ?_
  refine lv_iload_n hx hb dL_law_454 rfl (lv_at hl 3 rfl) ?_
  refine lv_iconst (v := 2) hx hb dL_law_455 (by decide) ?_
  refine lv_iadd hx hb dL_law_456 ?_
  refine va_sld hx hb hX hbl hbA hw.2.2 h2 dL_law_457 ?_
  have fr := fr_L7 o u cA oX oP oD oR1 oT1 oB1 oC oG oM oM1
  refine go_i (run_v (As := [.int (xs (x3 + 1).toNatClampNeg), .int (xs (x3 + 2).toNatClampNeg)]) (rest := [.int r]) ⟨hx, hb, hml, hown, hts⟩ (k_X7_bound l D cA u oM (xs (x3 + 1).toNatClampNeg) (xs (x3 + 2).toNatClampNeg) r oM1 g2 H.size) (cwV 2 hts gL_law_X7_bound rfl rfl rfl hd_X7_bound ⟨Nat.le_of_ble_eq_true rfl, Nat.le_of_ble_eq_true rfl⟩) fr hw hK hA z_0_ok trivial (ci := 7) rfl rfl rfl rfl hl.1 rfl (Nat.le_of_ble_eq_true rfl) dL_law_458 ⟨Nat.le_of_ble_eq_true rfl, Nat.le_of_ble_eq_true rfl⟩) fr hw hA (fun H locs hw => ?_)
  exact lv_icmp_eq (tgt := 780) hx hb dL_law_461 (by decide) (fun _ => kk oX oP oD oR1 oT1 oB1 oC oG oM1 H locs h hw) (fun c1 => absurd rfl c1)
set_option maxHeartbeats 4000000 in
set_option maxRecDepth 100000 in
theorem law_circle {p : Program} {l : Launch} {e : Env} {s : State} {m : MethodId} {below : List Frame} {meth : Method} {c : Code} {D : va_G} {cA : ClassId} {tx ty : Nat} {o u : Nat → Nat} {b L : Nat} {xs : Nat → Int32} (C0 : lw_At p s m meth c b L xs) (hK : va_K D vwCl [(cA, .int)] s) (hZ : z_X tx ty (fun q : Nat => s.heap.size ≤ q) s s.heap) {x3 : Int32} (h1 : vp_in (x3 + 1) L) (h2 : vp_in (x3 + 2) L) (h3 : vp_in (x3 + 3) L) (h4 : vp_in (x3 + 4) L) {oX oP oD oR oT oB oC oG oM : St} (h : REL oX oP oR oT oB oM) {H : Heap} {locs : List Loc} {ls : Array Slot} (hw : Wd D (fun q : Nat => s.heap.size ≤ q) s.heap H locs (wL o u cA oX oP oD oR oT oB oC oG oM)) (hl : lv_has ls 4 [(0, .ref b), (1, .ref (o 0)), (2, .ref (u 0)), (3, .int x3)])
    (kk : ∀ (oX oP oD oR oT oB oC oG oM : St) (H : Heap) (locs : List Loc), REL oX oP oR oT oB oM → Wd D (fun q : Nat => s.heap.size ≤ q) s.heap H locs (wL o u cA oX oP oD oR oT oB oC oG oM) → W p l e room_1 s m #[Value.ref b] below meth c H locs 37 3001 (lw_Z below #[Value.ref b] s) (F0 m 780 ls [])) : W p l e room_1 s m #[Value.ref b] below meth c H locs 37 3001 (lw_Z below #[Value.ref b] s) (F0 m 466 ls []) := by
  obtain ⟨hx, hb, hr, hml, hown, hts0, hX, hbl, hlocks, hgv⟩ := C0
  have hts : ∀ w ∈ lw_tbl, w.before #[Value.ref b] s = true := hts0
  replace hown : s.vm.findClass RL = some m.cls := hown
  have hA : ∀ q : Nat, s.heap.size ≤ q → (fun q : Nat => s.heap.size ≤ q) q := fun _ h => h
  have hbA : ¬ (fun q : Nat => s.heap.size ≤ q) b := Nat.not_le.mpr hbl
  obtain ⟨n0, z1, z2, z3, z4, z5, z6, z7, z8⟩ := h
  obtain ⟨r, oC1, oM1, g1, g2, hk⟩ := op_circle z1 z2 oC (xs (x3 + 1).toNatClampNeg) (xs (x3 + 2).toNatClampNeg) (xs (x3 + 3).toNatClampNeg) (xs (x3 + 4).toNatClampNeg)
  have h := REL.kn z1 z2 z4 z5 z6 z7 z8 hk z3
  refine lv_aload_n hx hb dL_law_466 rfl (lv_at hl 1 rfl) ?_
  refine lv_aload_n hx hb dL_law_467 rfl (lv_at hl 0 rfl) ?_
  refine lv_iload_n hx hb dL_law_468 rfl (lv_at hl 3 rfl) ?_
  refine lv_iconst (v := 1) hx hb dL_law_469 (by decide) ?_
  refine lv_iadd hx hb dL_law_470 ?_
  refine va_sld hx hb hX hbl hbA hw.2.2 h1 dL_law_471 ?_
  refine lv_aload_n hx hb dL_law_472 rfl (lv_at hl 0 rfl) ?_
  refine lv_iload_n hx hb dL_law_473 rfl (lv_at hl 3 rfl) ?_
  refine lv_iconst (v := 2) hx hb dL_law_474 (by decide) ?_
  refine lv_iadd hx hb dL_law_475 ?_
  refine va_sld hx hb hX hbl hbA hw.2.2 h2 dL_law_476 ?_
  refine lv_aload_n hx hb dL_law_477 rfl (lv_at hl 0 rfl) ?_
  refine lv_iload_n hx hb dL_law_478 rfl (lv_at hl 3 rfl) ?_
  refine lv_iconst (v := 3) hx hb dL_law_479 (by decide) ?_
  refine lv_iadd hx hb dL_law_480 ?_
  refine va_sld hx hb hX hbl hbA hw.2.2 h3 dL_law_481 ?_
  refine lv_aload_n hx hb dL_law_482 rfl (lv_at hl 0 rfl) ?_
  refine lv_iload_n hx hb dL_law_483 rfl (lv_at hl 3 rfl) ?_
  refine lv_iconst (v := 4) hx hb dL_law_484 (by decide) ?_
  refine lv_iadd hx hb dL_law_485 ?_
  refine va_sld hx hb hX hbl hbA hw.2.2 h4 dL_law_486 ?_
  have fr := fr_L6 o u cA oX oP oD oR oT oB oC oG oM oX oP oD oR oT oB oC1 oG
  refine go_i (run_v (As := [.int (xs (x3 + 1).toNatClampNeg), .int (xs (x3 + 2).toNatClampNeg), .int (xs (x3 + 3).toNatClampNeg), .int (xs (x3 + 4).toNatClampNeg)]) (rest := []) ⟨hx, hb, hml, hown, hts⟩ (k_X6_circle l D cA tx ty o oX oP oD oR oT oB oC oG (xs (x3 + 1).toNatClampNeg) (xs (x3 + 2).toNatClampNeg) (xs (x3 + 3).toNatClampNeg) (xs (x3 + 4).toNatClampNeg) r oC1 g1 H.size) (cwV 4 hts gL_law_X6_circle rfl rfl rfl hd_X6_circle ⟨Nat.le_of_ble_eq_true rfl, Nat.le_of_ble_eq_true rfl⟩) fr hw hK hA (z_X_ok tx ty) hZ (ci := 6) rfl rfl rfl rfl hl.1 rfl (Nat.le_of_ble_eq_true rfl) dL_law_487 ⟨Nat.le_of_ble_eq_true rfl, Nat.le_of_ble_eq_true rfl⟩) fr hw hA (fun H locs hw => ?_)
  refine lv_aload_n hx hb dL_law_490 rfl (lv_at hl 2 rfl) ?_
  refine lv_aload_n hx hb dL_law_491 rfl (lv_at hl 0 rfl) ?_
  refine lv_iload_n hx hb dL_law_492 rfl (lv_at hl 3 rfl) ?_
  refine lv_iconst (v := 1) hx hb dL_law_493 (by decide) ?_
  refine lv_iadd hx hb dL_law_494 ?_
  refine va_sld hx hb hX hbl hbA hw.2.2 h1 dL_law_495 ?_
  refine lv_aload_n hx hb dL_law_496 rfl (lv_at hl 0 rfl) ?_
  refine lv_iload_n hx hb dL_law_497 rfl (lv_at hl 3 rfl) ?_
  refine lv_iconst (v := 2) hx hb dL_law_498 (by decide) ?_
  refine lv_iadd hx hb dL_law_499 ?_
  refine va_sld hx hb hX hbl hbA hw.2.2 h2 dL_law_500 ?_
  refine lv_aload_n hx hb dL_law_501 rfl (lv_at hl 0 rfl) ?_
  refine lv_iload_n hx hb dL_law_502 rfl (lv_at hl 3 rfl) ?_
  refine lv_iconst (v := 3) hx hb dL_law_503 (by decide) ?_
  refine lv_iadd hx hb dL_law_504 ?_
  refine va_sld hx hb hX hbl hbA hw.2.2 h3 dL_law_505 ?_
  refine lv_aload_n hx hb dL_law_506 rfl (lv_at hl 0 rfl) ?_
  refine lv_iload_n hx hb dL_law_507 rfl (lv_at hl 3 rfl) ?_
  refine lv_iconst (v := 4) hx hb dL_law_508 (by decide) ?_
  refine lv_iadd hx hb dL_law_509 ?_
  refine va_sld hx hb hX hbl hbA hw.2.2 h4 dL_law_510 ?_
  have fr := fr_L7 o u cA oX oP oD oR oT oB oC1 oG oM oM1
  refine go_i (run_v (As := [.int (xs (x3 + 1).toNatClampNeg), .int (xs (x3 + 2).toNatClampNeg), .int (xs (x3 + 3).toNatClampNeg), .int (xs (x3 + 4).toNatClampNeg)]) (rest := [.int r]) ⟨hx, hb, hml, hown, hts⟩ (k_X7_circle l D cA u oM (xs (x3 + 1).toNatClampNeg) (xs (x3 + 2).toNatClampNeg) (xs (x3 + 3).toNatClampNeg) (xs (x3 + 4).toNatClampNeg) r oM1 g2 H.size) (cwV 4 hts gL_law_X7_circle rfl rfl rfl hd_X7_circle ⟨Nat.le_of_ble_eq_true rfl, Nat.le_of_ble_eq_true rfl⟩) fr hw hK hA z_0_ok trivial (ci := 7) rfl rfl rfl rfl hl.1 rfl (Nat.le_of_ble_eq_true rfl) dL_law_511 ⟨Nat.le_of_ble_eq_true rfl, Nat.le_of_ble_eq_true rfl⟩) fr hw hA (fun H locs hw => ?_)
  exact lv_icmp_eq (tgt := 780) hx hb dL_law_514 (by decide) (fun _ => kk oX oP oD oR oT oB oC1 oG oM1 H locs h hw) (fun c1 => absurd rfl c1)
set_option maxHeartbeats 4000000 in
set_option maxRecDepth 100000 in
theorem law_votes {p : Program} {l : Launch} {e : Env} {s : State} {m : MethodId} {below : List Frame} {meth : Method} {c : Code} {D : va_G} {cA : ClassId} {tx ty : Nat} {o u : Nat → Nat} {b L : Nat} {xs : Nat → Int32} (C0 : lw_At p s m meth c b L xs) (hK : va_K D vwCl [(cA, .int)] s) (hZ : z_X tx ty (fun q : Nat => s.heap.size ≤ q) s s.heap) {x3 : Int32} (h1 : vp_in (x3 + 1) L) (h2 : vp_in (x3 + 2) L) (h3 : vp_in (x3 + 3) L) (h4 : vp_in (x3 + 4) L) {oX oP oD oR oT oB oC oG oM : St} (h : REL oX oP oR oT oB oM) {H : Heap} {locs : List Loc} {ls : Array Slot} (hw : Wd D (fun q : Nat => s.heap.size ≤ q) s.heap H locs (wL o u cA oX oP oD oR oT oB oC oG oM)) (hl : lv_has ls 4 [(0, .ref b), (1, .ref (o 0)), (2, .ref (u 0)), (3, .int x3)])
    (kk : ∀ (oX oP oD oR oT oB oC oG oM : St) (H : Heap) (locs : List Loc), REL oX oP oR oT oB oM → Wd D (fun q : Nat => s.heap.size ≤ q) s.heap H locs (wL o u cA oX oP oD oR oT oB oC oG oM) → W p l e room_1 s m #[Value.ref b] below meth c H locs 37 3001 (lw_Z below #[Value.ref b] s) (F0 m 780 ls [])) : W p l e room_1 s m #[Value.ref b] below meth c H locs 37 3001 (lw_Z below #[Value.ref b] s) (F0 m 519 ls []) := by
  obtain ⟨hx, hb, hr, hml, hown, hts0, hX, hbl, hlocks, hgv⟩ := C0
  have hts : ∀ w ∈ lw_tbl, w.before #[Value.ref b] s = true := hts0
  replace hown : s.vm.findClass RL = some m.cls := hown
  have hA : ∀ q : Nat, s.heap.size ≤ q → (fun q : Nat => s.heap.size ≤ q) q := fun _ h => h
  have hbA : ¬ (fun q : Nat => s.heap.size ≤ q) b := Nat.not_le.mpr hbl
  obtain ⟨n0, z1, z2, z3, z4, z5, z6, z7, z8⟩ := h
  obtain ⟨r, oT1, oC1, oG1, oM1, g1, g2, hk, hT⟩ := op_votes z1 z2 z3 oC oG (xs (x3 + 1).toNatClampNeg) (xs (x3 + 2).toNatClampNeg) (xs (x3 + 3).toNatClampNeg)
  have h := REL.kn z1 z2 z4 z5 z6 z7 z8 hk hT
  refine lv_aload_n hx hb dL_law_519 rfl (lv_at hl 1 rfl) ?_
  refine lv_aload_n hx hb dL_law_520 rfl (lv_at hl 0 rfl) ?_
  refine lv_iload_n hx hb dL_law_521 rfl (lv_at hl 3 rfl) ?_
  refine lv_iconst (v := 1) hx hb dL_law_522 (by decide) ?_
  refine lv_iadd hx hb dL_law_523 ?_
  refine va_sld hx hb hX hbl hbA hw.2.2 h1 dL_law_524 ?_
  refine lv_aload_n hx hb dL_law_525 rfl (lv_at hl 0 rfl) ?_
  refine lv_iload_n hx hb dL_law_526 rfl (lv_at hl 3 rfl) ?_
  refine lv_iconst (v := 2) hx hb dL_law_527 (by decide) ?_
  refine lv_iadd hx hb dL_law_528 ?_
  refine va_sld hx hb hX hbl hbA hw.2.2 h2 dL_law_529 ?_
  refine lv_aload_n hx hb dL_law_530 rfl (lv_at hl 0 rfl) ?_
  refine lv_iload_n hx hb dL_law_531 rfl (lv_at hl 3 rfl) ?_
  refine lv_iconst (v := 3) hx hb dL_law_532 (by decide) ?_
  refine lv_iadd hx hb dL_law_533 ?_
  refine va_sld hx hb hX hbl hbA hw.2.2 h3 dL_law_534 ?_
  have fr := fr_L6 o u cA oX oP oD oR oT oB oC oG oM oX oP oD oR oT1 oB oC1 oG1
  refine go_i (run_v (As := [.int (xs (x3 + 1).toNatClampNeg), .int (xs (x3 + 2).toNatClampNeg), .int (xs (x3 + 3).toNatClampNeg)]) (rest := []) ⟨hx, hb, hml, hown, hts⟩ (k_X6_votes l D cA tx ty o oX oP oD oR oT oB oC oG (xs (x3 + 1).toNatClampNeg) (xs (x3 + 2).toNatClampNeg) (xs (x3 + 3).toNatClampNeg) r oT1 oC1 oG1 g1 H.size) (cwV 3 hts gL_law_X6_votes rfl rfl rfl hd_X6_votes ⟨Nat.le_of_ble_eq_true rfl, Nat.le_of_ble_eq_true rfl⟩) fr hw hK hA (z_X_ok tx ty) hZ (ci := 6) rfl rfl rfl rfl hl.1 rfl (Nat.le_of_ble_eq_true rfl) dL_law_535 ⟨Nat.le_of_ble_eq_true rfl, Nat.le_of_ble_eq_true rfl⟩) fr hw hA (fun H locs hw => ?_)
  refine lv_aload_n hx hb dL_law_538 rfl (lv_at hl 2 rfl) ?_
  refine lv_aload_n hx hb dL_law_539 rfl (lv_at hl 0 rfl) ?_
  refine lv_iload_n hx hb dL_law_540 rfl (lv_at hl 3 rfl) ?_
  refine lv_iconst (v := 1) hx hb dL_law_541 (by decide) ?_
  refine lv_iadd hx hb dL_law_542 ?_
  refine va_sld hx hb hX hbl hbA hw.2.2 h1 dL_law_543 ?_
  refine lv_aload_n hx hb dL_law_544 rfl (lv_at hl 0 rfl) ?_
  refine lv_iload_n hx hb dL_law_545 rfl (lv_at hl 3 rfl) ?_
  refine lv_iconst (v := 2) hx hb dL_law_546 (by decide) ?_
  refine lv_iadd hx hb dL_law_547 ?_
  refine va_sld hx hb hX hbl hbA hw.2.2 h2 dL_law_548 ?_
  refine lv_aload_n hx hb dL_law_549 rfl (lv_at hl 0 rfl) ?_
  refine lv_iload_n hx hb dL_law_550 rfl (lv_at hl 3 rfl) ?_
  refine lv_iconst (v := 3) hx hb dL_law_551 (by decide) ?_
  refine lv_iadd hx hb dL_law_552 ?_
  refine va_sld hx hb hX hbl hbA hw.2.2 h3 dL_law_553 ?_
  have fr := fr_L7 o u cA oX oP oD oR oT1 oB oC1 oG1 oM oM1
  refine go_i (run_v (As := [.int (xs (x3 + 1).toNatClampNeg), .int (xs (x3 + 2).toNatClampNeg), .int (xs (x3 + 3).toNatClampNeg)]) (rest := [.int r]) ⟨hx, hb, hml, hown, hts⟩ (k_X7_votes l D cA u oM (xs (x3 + 1).toNatClampNeg) (xs (x3 + 2).toNatClampNeg) (xs (x3 + 3).toNatClampNeg) r oM1 g2 H.size) (cwV 3 hts gL_law_X7_votes rfl rfl rfl hd_X7_votes ⟨Nat.le_of_ble_eq_true rfl, Nat.le_of_ble_eq_true rfl⟩) fr hw hK hA z_0_ok trivial (ci := 7) rfl rfl rfl rfl hl.1 rfl (Nat.le_of_ble_eq_true rfl) dL_law_554 ⟨Nat.le_of_ble_eq_true rfl, Nat.le_of_ble_eq_true rfl⟩) fr hw hA (fun H locs hw => ?_)
  exact lv_icmp_eq (tgt := 780) hx hb dL_law_557 (by decide) (fun _ => kk oX oP oD oR oT1 oB oC1 oG1 oM1 H locs h hw) (fun c1 => absurd rfl c1)
set_option maxHeartbeats 4000000 in
set_option maxRecDepth 100000 in
theorem law_spot {p : Program} {l : Launch} {e : Env} {s : State} {m : MethodId} {below : List Frame} {meth : Method} {c : Code} {D : va_G} {cA : ClassId} {tx ty : Nat} {o u : Nat → Nat} {b L : Nat} {xs : Nat → Int32} (C0 : lw_At p s m meth c b L xs) (hK : va_K D vwCl [(cA, .int)] s) (hZ : z_X tx ty (fun q : Nat => s.heap.size ≤ q) s s.heap) {x3 : Int32} (h1 : vp_in (x3 + 1) L) (h2 : vp_in (x3 + 2) L) (h3 : vp_in (x3 + 3) L) (h4 : vp_in (x3 + 4) L) {oX oP oD oR oT oB oC oG oM : St} (h : REL oX oP oR oT oB oM) {H : Heap} {locs : List Loc} {ls : Array Slot} (hw : Wd D (fun q : Nat => s.heap.size ≤ q) s.heap H locs (wL o u cA oX oP oD oR oT oB oC oG oM)) (hl : lv_has ls 4 [(0, .ref b), (1, .ref (o 0)), (2, .ref (u 0)), (3, .int x3)])
    (kk : ∀ (oX oP oD oR oT oB oC oG oM : St) (H : Heap) (locs : List Loc), REL oX oP oR oT oB oM → Wd D (fun q : Nat => s.heap.size ≤ q) s.heap H locs (wL o u cA oX oP oD oR oT oB oC oG oM) → W p l e room_1 s m #[Value.ref b] below meth c H locs 37 3001 (lw_Z below #[Value.ref b] s) (F0 m 780 ls [])) : W p l e room_1 s m #[Value.ref b] below meth c H locs 37 3001 (lw_Z below #[Value.ref b] s) (F0 m 562 ls []) := by
  obtain ⟨hx, hb, hr, hml, hown, hts0, hX, hbl, hlocks, hgv⟩ := C0
  have hts : ∀ w ∈ lw_tbl, w.before #[Value.ref b] s = true := hts0
  replace hown : s.vm.findClass RL = some m.cls := hown
  have hA : ∀ q : Nat, s.heap.size ≤ q → (fun q : Nat => s.heap.size ≤ q) q := fun _ h => h
  have hbA : ¬ (fun q : Nat => s.heap.size ≤ q) b := Nat.not_le.mpr hbl
  obtain ⟨n0, z1, z2, z3, z4, z5, z6, z7, z8⟩ := h
  obtain ⟨r, oT1, oC1, oG1, oM1, g1, g2, hk, hT⟩ := op_spot z1 z2 z3 oC oG (xs (x3 + 1).toNatClampNeg) (xs (x3 + 2).toNatClampNeg)
  have h := REL.kn z1 z2 z4 z5 z6 z7 z8 hk hT
  refine lv_aload_n hx hb dL_law_562 rfl (lv_at hl 1 rfl) ?_
  refine lv_aload_n hx hb dL_law_563 rfl (lv_at hl 0 rfl) ?_
  refine lv_iload_n hx hb dL_law_564 rfl (lv_at hl 3 rfl) ?_
  refine lv_iconst (v := 1) hx hb dL_law_565 (by decide) ?_
  refine lv_iadd hx hb dL_law_566 ?_
  refine va_sld hx hb hX hbl hbA hw.2.2 h1 dL_law_567 ?_
  refine lv_aload_n hx hb dL_law_568 rfl (lv_at hl 0 rfl) ?_
  refine lv_iload_n hx hb dL_law_569 rfl (lv_at hl 3 rfl) ?_
  refine lv_iconst (v := 2) hx hb dL_law_570 (by decide) ?_
  refine lv_iadd hx hb dL_law_571 ?_
  refine va_sld hx hb hX hbl hbA hw.2.2 h2 dL_law_572 ?_
  have fr := fr_L6 o u cA oX oP oD oR oT oB oC oG oM oX oP oD oR oT1 oB oC1 oG1
  refine go_i (run_v (As := [.int (xs (x3 + 1).toNatClampNeg), .int (xs (x3 + 2).toNatClampNeg)]) (rest := []) ⟨hx, hb, hml, hown, hts⟩ (k_X6_spot l D cA tx ty o oX oP oD oR oT oB oC oG (xs (x3 + 1).toNatClampNeg) (xs (x3 + 2).toNatClampNeg) r oT1 oC1 oG1 g1 H.size) (cwV 2 hts gL_law_X6_spot rfl rfl rfl hd_X6_spot ⟨Nat.le_of_ble_eq_true rfl, Nat.le_of_ble_eq_true rfl⟩) fr hw hK hA (z_X_ok tx ty) hZ (ci := 6) rfl rfl rfl rfl hl.1 rfl (Nat.le_of_ble_eq_true rfl) dL_law_573 ⟨Nat.le_of_ble_eq_true rfl, Nat.le_of_ble_eq_true rfl⟩) fr hw hA (fun H locs hw => ?_)
  refine lv_aload_n hx hb dL_law_576 rfl (lv_at hl 2 rfl) ?_
  refine lv_aload_n hx hb dL_law_577 rfl (lv_at hl 0 rfl) ?_
  refine lv_iload_n hx hb dL_law_578 rfl (lv_at hl 3 rfl) ?_
  refine lv_iconst (v := 1) hx hb dL_law_579 (by decide) ?_
  refine lv_iadd hx hb dL_law_580 ?_
  refine va_sld hx hb hX hbl hbA hw.2.2 h1 dL_law_581 ?_
  refine lv_aload_n hx hb dL_law_582 rfl (lv_at hl 0 rfl) ?_
  refine lv_iload_n hx hb dL_law_583 rfl (lv_at hl 3 rfl) ?_
  refine lv_iconst (v := 2) hx hb dL_law_584 (by decide) ?_
  refine lv_iadd hx hb dL_law_585 ?_
  refine va_sld hx hb hX hbl hbA hw.2.2 h2 dL_law_586 ?_
  have fr := fr_L7 o u cA oX oP oD oR oT1 oB oC1 oG1 oM oM1
  refine go_i (run_v (As := [.int (xs (x3 + 1).toNatClampNeg), .int (xs (x3 + 2).toNatClampNeg)]) (rest := [.int r]) ⟨hx, hb, hml, hown, hts⟩ (k_X7_spot l D cA u oM (xs (x3 + 1).toNatClampNeg) (xs (x3 + 2).toNatClampNeg) r oM1 g2 H.size) (cwV 2 hts gL_law_X7_spot rfl rfl rfl hd_X7_spot ⟨Nat.le_of_ble_eq_true rfl, Nat.le_of_ble_eq_true rfl⟩) fr hw hK hA z_0_ok trivial (ci := 7) rfl rfl rfl rfl hl.1 rfl (Nat.le_of_ble_eq_true rfl) dL_law_587 ⟨Nat.le_of_ble_eq_true rfl, Nat.le_of_ble_eq_true rfl⟩) fr hw hA (fun H locs hw => ?_)
  exact lv_icmp_eq (tgt := 780) hx hb dL_law_590 (by decide) (fun _ => kk oX oP oD oR oT1 oB oC1 oG1 oM1 H locs h hw) (fun c1 => absurd rfl c1)
set_option maxHeartbeats 4000000 in
set_option maxRecDepth 100000 in
theorem law_spots {p : Program} {l : Launch} {e : Env} {s : State} {m : MethodId} {below : List Frame} {meth : Method} {c : Code} {D : va_G} {cA : ClassId} {tx ty : Nat} {o u : Nat → Nat} {b L : Nat} {xs : Nat → Int32} (C0 : lw_At p s m meth c b L xs) (hK : va_K D vwCl [(cA, .int)] s) (hZ : z_X tx ty (fun q : Nat => s.heap.size ≤ q) s s.heap) {x3 : Int32} (h1 : vp_in (x3 + 1) L) (h2 : vp_in (x3 + 2) L) (h3 : vp_in (x3 + 3) L) (h4 : vp_in (x3 + 4) L) {oX oP oD oR oT oB oC oG oM : St} (h : REL oX oP oR oT oB oM) {H : Heap} {locs : List Loc} {ls : Array Slot} (hw : Wd D (fun q : Nat => s.heap.size ≤ q) s.heap H locs (wL o u cA oX oP oD oR oT oB oC oG oM)) (hl : lv_has ls 4 [(0, .ref b), (1, .ref (o 0)), (2, .ref (u 0)), (3, .int x3)])
    (kk : ∀ (oX oP oD oR oT oB oC oG oM : St) (H : Heap) (locs : List Loc), REL oX oP oR oT oB oM → Wd D (fun q : Nat => s.heap.size ≤ q) s.heap H locs (wL o u cA oX oP oD oR oT oB oC oG oM) → W p l e room_1 s m #[Value.ref b] below meth c H locs 37 3001 (lw_Z below #[Value.ref b] s) (F0 m 780 ls [])) : W p l e room_1 s m #[Value.ref b] below meth c H locs 37 3001 (lw_Z below #[Value.ref b] s) (F0 m 595 ls []) := by
  obtain ⟨hx, hb, hr, hml, hown, hts0, hX, hbl, hlocks, hgv⟩ := C0
  have hts : ∀ w ∈ lw_tbl, w.before #[Value.ref b] s = true := hts0
  replace hown : s.vm.findClass RL = some m.cls := hown
  have hA : ∀ q : Nat, s.heap.size ≤ q → (fun q : Nat => s.heap.size ≤ q) q := fun _ h => h
  have hbA : ¬ (fun q : Nat => s.heap.size ≤ q) b := Nat.not_le.mpr hbl
  obtain ⟨n0, z1, z2, z3, z4, z5, z6, z7, z8⟩ := h
  obtain ⟨r, oT1, oC1, oG1, oM1, g1, g2, hk, hT⟩ := op_spots z1 z2 z3 oC oG (xs (x3 + 1).toNatClampNeg)
  have h := REL.kn z1 z2 z4 z5 z6 z7 z8 hk hT
  refine lv_aload_n hx hb dL_law_595 rfl (lv_at hl 1 rfl) ?_
  refine lv_aload_n hx hb dL_law_596 rfl (lv_at hl 0 rfl) ?_
  refine lv_iload_n hx hb dL_law_597 rfl (lv_at hl 3 rfl) ?_
  refine lv_iconst (v := 1) hx hb dL_law_598 (by decide) ?_
  refine lv_iadd hx hb dL_law_599 ?_
  refine va_sld hx hb hX hbl hbA hw.2.2 h1 dL_law_600 ?_
  have fr := fr_L6 o u cA oX oP oD oR oT oB oC oG oM oX oP oD oR oT1 oB oC1 oG1
  refine go_i (run_v (As := [.int (xs (x3 + 1).toNatClampNeg)]) (rest := []) ⟨hx, hb, hml, hown, hts⟩ (k_X6_spots l D cA tx ty o oX oP oD oR oT oB oC oG (xs (x3 + 1).toNatClampNeg) r oT1 oC1 oG1 g1 H.size) (cwV 1 hts gL_law_X6_spots rfl rfl rfl hd_X6_spots ⟨Nat.le_of_ble_eq_true rfl, Nat.le_of_ble_eq_true rfl⟩) fr hw hK hA (z_X_ok tx ty) hZ (ci := 6) rfl rfl rfl rfl hl.1 rfl (Nat.le_of_ble_eq_true rfl) dL_law_601 ⟨Nat.le_of_ble_eq_true rfl, Nat.le_of_ble_eq_true rfl⟩) fr hw hA (fun H locs hw => ?_)
  refine lv_aload_n hx hb dL_law_604 rfl (lv_at hl 2 rfl) ?_
  refine lv_aload_n hx hb dL_law_605 rfl (lv_at hl 0 rfl) ?_
  refine lv_iload_n hx hb dL_law_606 rfl (lv_at hl 3 rfl) ?_
  refine lv_iconst (v := 1) hx hb dL_law_607 (by decide) ?_
  refine lv_iadd hx hb dL_law_608 ?_
  refine va_sld hx hb hX hbl hbA hw.2.2 h1 dL_law_609 ?_
  have fr := fr_L7 o u cA oX oP oD oR oT1 oB oC1 oG1 oM oM1
  refine go_i (run_v (As := [.int (xs (x3 + 1).toNatClampNeg)]) (rest := [.int r]) ⟨hx, hb, hml, hown, hts⟩ (k_X7_spots l D cA u oM (xs (x3 + 1).toNatClampNeg) r oM1 g2 H.size) (cwV 1 hts gL_law_X7_spots rfl rfl rfl hd_X7_spots ⟨Nat.le_of_ble_eq_true rfl, Nat.le_of_ble_eq_true rfl⟩) fr hw hK hA z_0_ok trivial (ci := 7) rfl rfl rfl rfl hl.1 rfl (Nat.le_of_ble_eq_true rfl) dL_law_610 ⟨Nat.le_of_ble_eq_true rfl, Nat.le_of_ble_eq_true rfl⟩) fr hw hA (fun H locs hw => ?_)
  exact lv_icmp_eq (tgt := 780) hx hb dL_law_613 (by decide) (fun _ => kk oX oP oD oR oT1 oB oC1 oG1 oM1 H locs h hw) (fun c1 => absurd rfl c1)
set_option maxHeartbeats 4000000 in
set_option maxRecDepth 100000 in
theorem law_hunt {p : Program} {l : Launch} {e : Env} {s : State} {m : MethodId} {below : List Frame} {meth : Method} {c : Code} {D : va_G} {cA : ClassId} {tx ty : Nat} {o u : Nat → Nat} {b L : Nat} {xs : Nat → Int32} (C0 : lw_At p s m meth c b L xs) (hK : va_K D vwCl [(cA, .int)] s) (hZ : z_X tx ty (fun q : Nat => s.heap.size ≤ q) s s.heap) {x3 : Int32} (h1 : vp_in (x3 + 1) L) (h2 : vp_in (x3 + 2) L) (h3 : vp_in (x3 + 3) L) (h4 : vp_in (x3 + 4) L) {oX oP oD oR oT oB oC oG oM : St} (h : REL oX oP oR oT oB oM) {H : Heap} {locs : List Loc} {ls : Array Slot} (hw : Wd D (fun q : Nat => s.heap.size ≤ q) s.heap H locs (wL o u cA oX oP oD oR oT oB oC oG oM)) (hl : lv_has ls 4 [(0, .ref b), (1, .ref (o 0)), (2, .ref (u 0)), (3, .int x3)])
    (kk : ∀ (oX oP oD oR oT oB oC oG oM : St) (H : Heap) (locs : List Loc), REL oX oP oR oT oB oM → Wd D (fun q : Nat => s.heap.size ≤ q) s.heap H locs (wL o u cA oX oP oD oR oT oB oC oG oM) → W p l e room_1 s m #[Value.ref b] below meth c H locs 37 3001 (lw_Z below #[Value.ref b] s) (F0 m 780 ls [])) : W p l e room_1 s m #[Value.ref b] below meth c H locs 37 3001 (lw_Z below #[Value.ref b] s) (F0 m 618 ls []) := by
  obtain ⟨hx, hb, hr, hml, hown, hts0, hX, hbl, hlocks, hgv⟩ := C0
  have hts : ∀ w ∈ lw_tbl, w.before #[Value.ref b] s = true := hts0
  replace hown : s.vm.findClass RL = some m.cls := hown
  have hA : ∀ q : Nat, s.heap.size ≤ q → (fun q : Nat => s.heap.size ≤ q) q := fun _ h => h
  have hbA : ¬ (fun q : Nat => s.heap.size ≤ q) b := Nat.not_le.mpr hbl
  obtain ⟨r, oX1, oR1, oT1, oC1, oG1, oM1, g1, g2, h⟩ := op_hunt h oC oG
  refine lv_aload_n hx hb dL_law_618 rfl (lv_at hl 1 rfl) ?_
  have fr := fr_L6 o u cA oX oP oD oR oT oB oC oG oM oX1 oP oD oR1 oT1 oB oC1 oG1
  refine go_i (run_v (As := []) (rest := []) ⟨hx, hb, hml, hown, hts⟩ (k_X6_hunt l D cA tx ty o oX oP oD oR oT oB oC oG  r oX1 oR1 oT1 oC1 oG1 g1 H.size) (cwV 0 hts gL_law_X6_hunt rfl rfl rfl hd_X6_hunt ⟨Nat.le_of_ble_eq_true rfl, Nat.le_of_ble_eq_true rfl⟩) fr hw hK hA (z_X_ok tx ty) hZ (ci := 6) rfl rfl rfl rfl hl.1 rfl (Nat.le_of_ble_eq_true rfl) dL_law_619 ⟨Nat.le_of_ble_eq_true rfl, Nat.le_of_ble_eq_true rfl⟩) fr hw hA (fun H locs hw => ?_)
  refine lv_aload_n hx hb dL_law_622 rfl (lv_at hl 2 rfl) ?_
  have fr := fr_L7 o u cA oX1 oP oD oR1 oT1 oB oC1 oG1 oM oM1
  refine go_i (run_v (As := []) (rest := [.int r]) ⟨hx, hb, hml, hown, hts⟩ (k_X7_hunt l D cA u oM  r oM1 g2 H.size) (cwV 0 hts gL_law_X7_hunt rfl rfl rfl hd_X7_hunt ⟨Nat.le_of_ble_eq_true rfl, Nat.le_of_ble_eq_true rfl⟩) fr hw hK hA z_0_ok trivial (ci := 7) rfl rfl rfl rfl hl.1 rfl (Nat.le_of_ble_eq_true rfl) dL_law_623 ⟨Nat.le_of_ble_eq_true rfl, Nat.le_of_ble_eq_true rfl⟩) fr hw hA (fun H locs hw => ?_)
  exact lv_icmp_eq (tgt := 780) hx hb dL_law_626 (by decide) (fun _ => kk oX1 oP oD oR1 oT1 oB oC1 oG1 oM1 H locs h hw) (fun c1 => absurd rfl c1)
set_option maxHeartbeats 4000000 in
set_option maxRecDepth 100000 in
theorem law_split {p : Program} {l : Launch} {e : Env} {s : State} {m : MethodId} {below : List Frame} {meth : Method} {c : Code} {D : va_G} {cA : ClassId} {tx ty : Nat} {o u : Nat → Nat} {b L : Nat} {xs : Nat → Int32} (C0 : lw_At p s m meth c b L xs) (hK : va_K D vwCl [(cA, .int)] s) (hZ : z_X tx ty (fun q : Nat => s.heap.size ≤ q) s s.heap) {x3 : Int32} (h1 : vp_in (x3 + 1) L) (h2 : vp_in (x3 + 2) L) (h3 : vp_in (x3 + 3) L) (h4 : vp_in (x3 + 4) L) {oX oP oD oR oT oB oC oG oM : St} (h : REL oX oP oR oT oB oM) {H : Heap} {locs : List Loc} {ls : Array Slot} (hw : Wd D (fun q : Nat => s.heap.size ≤ q) s.heap H locs (wL o u cA oX oP oD oR oT oB oC oG oM)) (hl : lv_has ls 4 [(0, .ref b), (1, .ref (o 0)), (2, .ref (u 0)), (3, .int x3)])
    (kk : ∀ (oX oP oD oR oT oB oC oG oM : St) (H : Heap) (locs : List Loc), REL oX oP oR oT oB oM → Wd D (fun q : Nat => s.heap.size ≤ q) s.heap H locs (wL o u cA oX oP oD oR oT oB oC oG oM) → W p l e room_1 s m #[Value.ref b] below meth c H locs 37 3001 (lw_Z below #[Value.ref b] s) (F0 m 780 ls [])) : W p l e room_1 s m #[Value.ref b] below meth c H locs 37 3001 (lw_Z below #[Value.ref b] s) (F0 m 631 ls []) := by
  obtain ⟨hx, hb, hr, hml, hown, hts0, hX, hbl, hlocks, hgv⟩ := C0
  have hts : ∀ w ∈ lw_tbl, w.before #[Value.ref b] s = true := hts0
  replace hown : s.vm.findClass RL = some m.cls := hown
  have hA : ∀ q : Nat, s.heap.size ≤ q → (fun q : Nat => s.heap.size ≤ q) q := fun _ h => h
  have hbA : ¬ (fun q : Nat => s.heap.size ≤ q) b := Nat.not_le.mpr hbl
  obtain ⟨r, oX1, oR1, oG1, oM1, g1, g2, h⟩ := op_split h oG
  refine lv_aload_n hx hb dL_law_631 rfl (lv_at hl 1 rfl) ?_
  have fr := fr_L6 o u cA oX oP oD oR oT oB oC oG oM oX1 oP oD oR1 oT oB oC oG1
  refine go_i (run_v (As := []) (rest := []) ⟨hx, hb, hml, hown, hts⟩ (k_X6_split l D cA tx ty o oX oP oD oR oT oB oC oG  r oX1 oR1 oG1 g1 H.size) (cwV 0 hts gL_law_X6_split rfl rfl rfl hd_X6_split ⟨Nat.le_of_ble_eq_true rfl, Nat.le_of_ble_eq_true rfl⟩) fr hw hK hA (z_X_ok tx ty) hZ (ci := 6) rfl rfl rfl rfl hl.1 rfl (Nat.le_of_ble_eq_true rfl) dL_law_632 ⟨Nat.le_of_ble_eq_true rfl, Nat.le_of_ble_eq_true rfl⟩) fr hw hA (fun H locs hw => ?_)
  refine lv_aload_n hx hb dL_law_635 rfl (lv_at hl 2 rfl) ?_
  have fr := fr_L7 o u cA oX1 oP oD oR1 oT oB oC oG1 oM oM1
  refine go_i (run_v (As := []) (rest := [.int r]) ⟨hx, hb, hml, hown, hts⟩ (k_X7_split l D cA u oM  r oM1 g2 H.size) (cwV 0 hts gL_law_X7_split rfl rfl rfl hd_X7_split ⟨Nat.le_of_ble_eq_true rfl, Nat.le_of_ble_eq_true rfl⟩) fr hw hK hA z_0_ok trivial (ci := 7) rfl rfl rfl rfl hl.1 rfl (Nat.le_of_ble_eq_true rfl) dL_law_636 ⟨Nat.le_of_ble_eq_true rfl, Nat.le_of_ble_eq_true rfl⟩) fr hw hA (fun H locs hw => ?_)
  exact lv_icmp_eq (tgt := 780) hx hb dL_law_639 (by decide) (fun _ => kk oX1 oP oD oR1 oT oB oC oG1 oM1 H locs h hw) (fun c1 => absurd rfl c1)
set_option maxHeartbeats 4000000 in
set_option maxRecDepth 100000 in
theorem law_ring {p : Program} {l : Launch} {e : Env} {s : State} {m : MethodId} {below : List Frame} {meth : Method} {c : Code} {D : va_G} {cA : ClassId} {tx ty : Nat} {o u : Nat → Nat} {b L : Nat} {xs : Nat → Int32} (C0 : lw_At p s m meth c b L xs) (hK : va_K D vwCl [(cA, .int)] s) (hZ : z_X tx ty (fun q : Nat => s.heap.size ≤ q) s s.heap) {x3 : Int32} (h1 : vp_in (x3 + 1) L) (h2 : vp_in (x3 + 2) L) (h3 : vp_in (x3 + 3) L) (h4 : vp_in (x3 + 4) L) {oX oP oD oR oT oB oC oG oM : St} (h : REL oX oP oR oT oB oM) {H : Heap} {locs : List Loc} {ls : Array Slot} (hw : Wd D (fun q : Nat => s.heap.size ≤ q) s.heap H locs (wL o u cA oX oP oD oR oT oB oC oG oM)) (hl : lv_has ls 4 [(0, .ref b), (1, .ref (o 0)), (2, .ref (u 0)), (3, .int x3)])
    (kk : ∀ (oX oP oD oR oT oB oC oG oM : St) (H : Heap) (locs : List Loc), REL oX oP oR oT oB oM → Wd D (fun q : Nat => s.heap.size ≤ q) s.heap H locs (wL o u cA oX oP oD oR oT oB oC oG oM) → W p l e room_1 s m #[Value.ref b] below meth c H locs 37 3001 (lw_Z below #[Value.ref b] s) (F0 m 780 ls [])) : W p l e room_1 s m #[Value.ref b] below meth c H locs 37 3001 (lw_Z below #[Value.ref b] s) (F0 m 644 ls []) := by
  obtain ⟨hx, hb, hr, hml, hown, hts0, hX, hbl, hlocks, hgv⟩ := C0
  have hts : ∀ w ∈ lw_tbl, w.before #[Value.ref b] s = true := hts0
  replace hown : s.vm.findClass RL = some m.cls := hown
  have hA : ∀ q : Nat, s.heap.size ≤ q → (fun q : Nat => s.heap.size ≤ q) q := fun _ h => h
  have hbA : ¬ (fun q : Nat => s.heap.size ≤ q) b := Nat.not_le.mpr hbl
  obtain ⟨r, oG1, g1, g2⟩ := op_ring h oG (xs (x3 + 1).toNatClampNeg) (xs (x3 + 2).toNatClampNeg)
  refine lv_aload_n hx hb dL_law_644 rfl (lv_at hl 1 rfl) ?_
  refine lv_aload_n hx hb dL_law_645 rfl (lv_at hl 0 rfl) ?_
  refine lv_iload_n hx hb dL_law_646 rfl (lv_at hl 3 rfl) ?_
  refine lv_iconst (v := 1) hx hb dL_law_647 (by decide) ?_
  refine lv_iadd hx hb dL_law_648 ?_
  refine va_sld hx hb hX hbl hbA hw.2.2 h1 dL_law_649 ?_
  refine lv_aload_n hx hb dL_law_650 rfl (lv_at hl 0 rfl) ?_
  refine lv_iload_n hx hb dL_law_651 rfl (lv_at hl 3 rfl) ?_
  refine lv_iconst (v := 2) hx hb dL_law_652 (by decide) ?_
  refine lv_iadd hx hb dL_law_653 ?_
  refine va_sld hx hb hX hbl hbA hw.2.2 h2 dL_law_654 ?_
  have fr := fr_L6 o u cA oX oP oD oR oT oB oC oG oM oX oP oD oR oT oB oC oG1
  refine go_i (run_v (As := [.int (xs (x3 + 1).toNatClampNeg), .int (xs (x3 + 2).toNatClampNeg)]) (rest := []) ⟨hx, hb, hml, hown, hts⟩ (k_X6_ring l D cA tx ty o oX oP oD oR oT oB oC oG (xs (x3 + 1).toNatClampNeg) (xs (x3 + 2).toNatClampNeg) r oG1 g1 H.size) (cwV 2 hts gL_law_X6_ring rfl rfl rfl hd_X6_ring ⟨Nat.le_of_ble_eq_true rfl, Nat.le_of_ble_eq_true rfl⟩) fr hw hK hA (z_X_ok tx ty) hZ (ci := 6) rfl rfl rfl rfl hl.1 rfl (Nat.le_of_ble_eq_true rfl) dL_law_655 ⟨Nat.le_of_ble_eq_true rfl, Nat.le_of_ble_eq_true rfl⟩) fr hw hA (fun H locs hw => ?_)
  refine lv_aload_n hx hb dL_law_658 rfl (lv_at hl 2 rfl) ?_
  refine lv_aload_n hx hb dL_law_659 rfl (lv_at hl 0 rfl) ?_
  refine lv_iload_n hx hb dL_law_660 rfl (lv_at hl 3 rfl) ?_
  refine lv_iconst (v := 1) hx hb dL_law_661 (by decide) ?_
  refine lv_iadd hx hb dL_law_662 ?_
  refine va_sld hx hb hX hbl hbA hw.2.2 h1 dL_law_663 ?_
  refine lv_aload_n hx hb dL_law_664 rfl (lv_at hl 0 rfl) ?_
  refine lv_iload_n hx hb dL_law_665 rfl (lv_at hl 3 rfl) ?_
  refine lv_iconst (v := 2) hx hb dL_law_666 (by decide) ?_
  refine lv_iadd hx hb dL_law_667 ?_
  refine va_sld hx hb hX hbl hbA hw.2.2 h2 dL_law_668 ?_
  have fr := fr_L7 o u cA oX oP oD oR oT oB oC oG1 oM oM
  refine go_i (run_v (As := [.int (xs (x3 + 1).toNatClampNeg), .int (xs (x3 + 2).toNatClampNeg)]) (rest := [.int r]) ⟨hx, hb, hml, hown, hts⟩ (k_X7_ring l D cA u oM (xs (x3 + 1).toNatClampNeg) (xs (x3 + 2).toNatClampNeg) r  g2 H.size) (cwV 2 hts gL_law_X7_ring rfl rfl rfl hd_X7_ring ⟨Nat.le_of_ble_eq_true rfl, Nat.le_of_ble_eq_true rfl⟩) fr hw hK hA z_0_ok trivial (ci := 7) rfl rfl rfl rfl hl.1 rfl (Nat.le_of_ble_eq_true rfl) dL_law_669 ⟨Nat.le_of_ble_eq_true rfl, Nat.le_of_ble_eq_true rfl⟩) fr hw hA (fun H locs hw => ?_)
  exact lv_icmp_eq (tgt := 780) hx hb dL_law_672 (by decide) (fun _ => kk oX oP oD oR oT oB oC oG1 oM H locs h hw) (fun c1 => absurd rfl c1)
set_option maxHeartbeats 4000000 in
set_option maxRecDepth 100000 in
theorem law_as {p : Program} {l : Launch} {e : Env} {s : State} {m : MethodId} {below : List Frame} {meth : Method} {c : Code} {D : va_G} {cA : ClassId} {tx ty : Nat} {o u : Nat → Nat} {b L : Nat} {xs : Nat → Int32} (C0 : lw_At p s m meth c b L xs) (hK : va_K D vwCl [(cA, .int)] s) (hZ : z_X tx ty (fun q : Nat => s.heap.size ≤ q) s s.heap) {x3 : Int32} (h1 : vp_in (x3 + 1) L) (h2 : vp_in (x3 + 2) L) (h3 : vp_in (x3 + 3) L) (h4 : vp_in (x3 + 4) L) {oX oP oD oR oT oB oC oG oM : St} (h : REL oX oP oR oT oB oM) {H : Heap} {locs : List Loc} {ls : Array Slot} (hw : Wd D (fun q : Nat => s.heap.size ≤ q) s.heap H locs (wL o u cA oX oP oD oR oT oB oC oG oM)) (hl : lv_has ls 4 [(0, .ref b), (1, .ref (o 0)), (2, .ref (u 0)), (3, .int x3)])
    (kk : ∀ (oX oP oD oR oT oB oC oG oM : St) (H : Heap) (locs : List Loc), REL oX oP oR oT oB oM → Wd D (fun q : Nat => s.heap.size ≤ q) s.heap H locs (wL o u cA oX oP oD oR oT oB oC oG oM) → W p l e room_1 s m #[Value.ref b] below meth c H locs 37 3001 (lw_Z below #[Value.ref b] s) (F0 m 780 ls [])) : W p l e room_1 s m #[Value.ref b] below meth c H locs 37 3001 (lw_Z below #[Value.ref b] s) (F0 m 677 ls []) := by
  obtain ⟨hx, hb, hr, hml, hown, hts0, hX, hbl, hlocks, hgv⟩ := C0
  have hts : ∀ w ∈ lw_tbl, w.before #[Value.ref b] s = true := hts0
  replace hown : s.vm.findClass RL = some m.cls := hown
  have hA : ∀ q : Nat, s.heap.size ≤ q → (fun q : Nat => s.heap.size ≤ q) q := fun _ h => h
  have hbA : ¬ (fun q : Nat => s.heap.size ≤ q) b := Nat.not_le.mpr hbl
  obtain ⟨r, oG1, g1, g2⟩ := op_as h oG (xs (x3 + 1).toNatClampNeg) (xs (x3 + 2).toNatClampNeg)
  refine lv_aload_n hx hb dL_law_677 rfl (lv_at hl 1 rfl) ?_
  refine lv_aload_n hx hb dL_law_678 rfl (lv_at hl 0 rfl) ?_
  refine lv_iload_n hx hb dL_law_679 rfl (lv_at hl 3 rfl) ?_
  refine lv_iconst (v := 1) hx hb dL_law_680 (by decide) ?_
  refine lv_iadd hx hb dL_law_681 ?_
  refine va_sld hx hb hX hbl hbA hw.2.2 h1 dL_law_682 ?_
  refine lv_aload_n hx hb dL_law_683 rfl (lv_at hl 0 rfl) ?_
  refine lv_iload_n hx hb dL_law_684 rfl (lv_at hl 3 rfl) ?_
  refine lv_iconst (v := 2) hx hb dL_law_685 (by decide) ?_
  refine lv_iadd hx hb dL_law_686 ?_
  refine va_sld hx hb hX hbl hbA hw.2.2 h2 dL_law_687 ?_
  have fr := fr_L6 o u cA oX oP oD oR oT oB oC oG oM oX oP oD oR oT oB oC oG1
  refine go_i (run_v (As := [.int (xs (x3 + 1).toNatClampNeg), .int (xs (x3 + 2).toNatClampNeg)]) (rest := []) ⟨hx, hb, hml, hown, hts⟩ (k_X6_as l D cA tx ty o oX oP oD oR oT oB oC oG (xs (x3 + 1).toNatClampNeg) (xs (x3 + 2).toNatClampNeg) r oG1 g1 H.size) (cwV 2 hts gL_law_X6_as rfl rfl rfl hd_X6_as ⟨Nat.le_of_ble_eq_true rfl, Nat.le_of_ble_eq_true rfl⟩) fr hw hK hA (z_X_ok tx ty) hZ (ci := 6) rfl rfl rfl rfl hl.1 rfl (Nat.le_of_ble_eq_true rfl) dL_law_688 ⟨Nat.le_of_ble_eq_true rfl, Nat.le_of_ble_eq_true rfl⟩) fr hw hA (fun H locs hw => ?_)
  refine lv_aload_n hx hb dL_law_691 rfl (lv_at hl 2 rfl) ?_
  refine lv_aload_n hx hb dL_law_692 rfl (lv_at hl 0 rfl) ?_
  refine lv_iload_n hx hb dL_law_693 rfl (lv_at hl 3 rfl) ?_
  refine lv_iconst (v := 1) hx hb dL_law_694 (by decide) ?_
  refine lv_iadd hx hb dL_law_695 ?_
  refine va_sld hx hb hX hbl hbA hw.2.2 h1 dL_law_696 ?_
  refine lv_aload_n hx hb dL_law_697 rfl (lv_at hl 0 rfl) ?_
  refine lv_iload_n hx hb dL_law_698 rfl (lv_at hl 3 rfl) ?_
  refine lv_iconst (v := 2) hx hb dL_law_699 (by decide) ?_
  refine lv_iadd hx hb dL_law_700 ?_
  refine va_sld hx hb hX hbl hbA hw.2.2 h2 dL_law_701 ?_
  have fr := fr_L7 o u cA oX oP oD oR oT oB oC oG1 oM oM
  refine go_i (run_v (As := [.int (xs (x3 + 1).toNatClampNeg), .int (xs (x3 + 2).toNatClampNeg)]) (rest := [.int r]) ⟨hx, hb, hml, hown, hts⟩ (k_X7_as l D cA u oM (xs (x3 + 1).toNatClampNeg) (xs (x3 + 2).toNatClampNeg) r  g2 H.size) (cwV 2 hts gL_law_X7_as rfl rfl rfl hd_X7_as ⟨Nat.le_of_ble_eq_true rfl, Nat.le_of_ble_eq_true rfl⟩) fr hw hK hA z_0_ok trivial (ci := 7) rfl rfl rfl rfl hl.1 rfl (Nat.le_of_ble_eq_true rfl) dL_law_702 ⟨Nat.le_of_ble_eq_true rfl, Nat.le_of_ble_eq_true rfl⟩) fr hw hA (fun H locs hw => ?_)
  exact lv_icmp_eq (tgt := 780) hx hb dL_law_705 (by decide) (fun _ => kk oX oP oD oR oT oB oC oG1 oM H locs h hw) (fun c1 => absurd rfl c1)
set_option maxHeartbeats 4000000 in
set_option maxRecDepth 100000 in
theorem law_cross {p : Program} {l : Launch} {e : Env} {s : State} {m : MethodId} {below : List Frame} {meth : Method} {c : Code} {D : va_G} {cA : ClassId} {tx ty : Nat} {o u : Nat → Nat} {b L : Nat} {xs : Nat → Int32} (C0 : lw_At p s m meth c b L xs) (hK : va_K D vwCl [(cA, .int)] s) (hZ : z_X tx ty (fun q : Nat => s.heap.size ≤ q) s s.heap) {x3 : Int32} (h1 : vp_in (x3 + 1) L) (h2 : vp_in (x3 + 2) L) (h3 : vp_in (x3 + 3) L) (h4 : vp_in (x3 + 4) L) {oX oP oD oR oT oB oC oG oM : St} (h : REL oX oP oR oT oB oM) {H : Heap} {locs : List Loc} {ls : Array Slot} (hw : Wd D (fun q : Nat => s.heap.size ≤ q) s.heap H locs (wL o u cA oX oP oD oR oT oB oC oG oM)) (hl : lv_has ls 4 [(0, .ref b), (1, .ref (o 0)), (2, .ref (u 0)), (3, .int x3)])
    (kk : ∀ (oX oP oD oR oT oB oC oG oM : St) (H : Heap) (locs : List Loc), REL oX oP oR oT oB oM → Wd D (fun q : Nat => s.heap.size ≤ q) s.heap H locs (wL o u cA oX oP oD oR oT oB oC oG oM) → W p l e room_1 s m #[Value.ref b] below meth c H locs 37 3001 (lw_Z below #[Value.ref b] s) (F0 m 780 ls [])) : W p l e room_1 s m #[Value.ref b] below meth c H locs 37 3001 (lw_Z below #[Value.ref b] s) (F0 m 710 ls []) := by
  obtain ⟨hx, hb, hr, hml, hown, hts0, hX, hbl, hlocks, hgv⟩ := C0
  have hts : ∀ w ∈ lw_tbl, w.before #[Value.ref b] s = true := hts0
  replace hown : s.vm.findClass RL = some m.cls := hown
  have hA : ∀ q : Nat, s.heap.size ≤ q → (fun q : Nat => s.heap.size ≤ q) q := fun _ h => h
  have hbA : ¬ (fun q : Nat => s.heap.size ≤ q) b := Nat.not_le.mpr hbl
  obtain ⟨r, g1, g2⟩ := op_cross h (xs (x3 + 1).toNatClampNeg) (xs (x3 + 2).toNatClampNeg)
  refine lv_aload_n hx hb dL_law_710 rfl (lv_at hl 1 rfl) ?_
  refine lv_aload_n hx hb dL_law_711 rfl (lv_at hl 0 rfl) ?_
  refine lv_iload_n hx hb dL_law_712 rfl (lv_at hl 3 rfl) ?_
  refine lv_iconst (v := 1) hx hb dL_law_713 (by decide) ?_
  refine lv_iadd hx hb dL_law_714 ?_
  refine va_sld hx hb hX hbl hbA hw.2.2 h1 dL_law_715 ?_
  refine lv_aload_n hx hb dL_law_716 rfl (lv_at hl 0 rfl) ?_
  refine lv_iload_n hx hb dL_law_717 rfl (lv_at hl 3 rfl) ?_
  refine lv_iconst (v := 2) hx hb dL_law_718 (by decide) ?_
  refine lv_iadd hx hb dL_law_719 ?_
  refine va_sld hx hb hX hbl hbA hw.2.2 h2 dL_law_720 ?_
  have fr := fr_L6 o u cA oX oP oD oR oT oB oC oG oM oX oP oD oR oT oB oC oG
  refine go_i (run_v (As := [.int (xs (x3 + 1).toNatClampNeg), .int (xs (x3 + 2).toNatClampNeg)]) (rest := []) ⟨hx, hb, hml, hown, hts⟩ (k_X6_cross l D cA tx ty o oX oP oD oR oT oB oC oG (xs (x3 + 1).toNatClampNeg) (xs (x3 + 2).toNatClampNeg) r  g1 H.size) (cwV 2 hts gL_law_X6_cross rfl rfl rfl hd_X6_cross ⟨Nat.le_of_ble_eq_true rfl, Nat.le_of_ble_eq_true rfl⟩) fr hw hK hA (z_X_ok tx ty) hZ (ci := 6) rfl rfl rfl rfl hl.1 rfl (Nat.le_of_ble_eq_true rfl) dL_law_721 ⟨Nat.le_of_ble_eq_true rfl, Nat.le_of_ble_eq_true rfl⟩) fr hw hA (fun H locs hw => ?_)
  refine lv_aload_n hx hb dL_law_724 rfl (lv_at hl 2 rfl) ?_
  refine lv_aload_n hx hb dL_law_725 rfl (lv_at hl 0 rfl) ?_
  refine lv_iload_n hx hb dL_law_726 rfl (lv_at hl 3 rfl) ?_
  refine lv_iconst (v := 1) hx hb dL_law_727 (by decide) ?_
  refine lv_iadd hx hb dL_law_728 ?_
  refine va_sld hx hb hX hbl hbA hw.2.2 h1 dL_law_729 ?_
  refine lv_aload_n hx hb dL_law_730 rfl (lv_at hl 0 rfl) ?_
  refine lv_iload_n hx hb dL_law_731 rfl (lv_at hl 3 rfl) ?_
  refine lv_iconst (v := 2) hx hb dL_law_732 (by decide) ?_
  refine lv_iadd hx hb dL_law_733 ?_
  refine va_sld hx hb hX hbl hbA hw.2.2 h2 dL_law_734 ?_
  have fr := fr_L7 o u cA oX oP oD oR oT oB oC oG oM oM
  refine go_i (run_v (As := [.int (xs (x3 + 1).toNatClampNeg), .int (xs (x3 + 2).toNatClampNeg)]) (rest := [.int r]) ⟨hx, hb, hml, hown, hts⟩ (k_X7_cross l D cA u oM (xs (x3 + 1).toNatClampNeg) (xs (x3 + 2).toNatClampNeg) r  g2 H.size) (cwV 2 hts gL_law_X7_cross rfl rfl rfl hd_X7_cross ⟨Nat.le_of_ble_eq_true rfl, Nat.le_of_ble_eq_true rfl⟩) fr hw hK hA z_0_ok trivial (ci := 7) rfl rfl rfl rfl hl.1 rfl (Nat.le_of_ble_eq_true rfl) dL_law_735 ⟨Nat.le_of_ble_eq_true rfl, Nat.le_of_ble_eq_true rfl⟩) fr hw hA (fun H locs hw => ?_)
  exact lv_icmp_eq (tgt := 780) hx hb dL_law_738 (by decide) (fun _ => kk oX oP oD oR oT oB oC oG oM H locs h hw) (fun c1 => absurd rfl c1)
set_option maxHeartbeats 4000000 in
set_option maxRecDepth 100000 in
theorem law_count {p : Program} {l : Launch} {e : Env} {s : State} {m : MethodId} {below : List Frame} {meth : Method} {c : Code} {D : va_G} {cA : ClassId} {tx ty : Nat} {o u : Nat → Nat} {b L : Nat} {xs : Nat → Int32} (C0 : lw_At p s m meth c b L xs) (hK : va_K D vwCl [(cA, .int)] s) (hZ : z_X tx ty (fun q : Nat => s.heap.size ≤ q) s s.heap) {x3 : Int32} (h1 : vp_in (x3 + 1) L) (h2 : vp_in (x3 + 2) L) (h3 : vp_in (x3 + 3) L) (h4 : vp_in (x3 + 4) L) {oX oP oD oR oT oB oC oG oM : St} (h : REL oX oP oR oT oB oM) {H : Heap} {locs : List Loc} {ls : Array Slot} (hw : Wd D (fun q : Nat => s.heap.size ≤ q) s.heap H locs (wL o u cA oX oP oD oR oT oB oC oG oM)) (hl : lv_has ls 4 [(0, .ref b), (1, .ref (o 0)), (2, .ref (u 0)), (3, .int x3)])
    (kk : ∀ (oX oP oD oR oT oB oC oG oM : St) (H : Heap) (locs : List Loc), REL oX oP oR oT oB oM → Wd D (fun q : Nat => s.heap.size ≤ q) s.heap H locs (wL o u cA oX oP oD oR oT oB oC oG oM) → W p l e room_1 s m #[Value.ref b] below meth c H locs 37 3001 (lw_Z below #[Value.ref b] s) (F0 m 780 ls [])) : W p l e room_1 s m #[Value.ref b] below meth c H locs 37 3001 (lw_Z below #[Value.ref b] s) (F0 m 743 ls []) := by
  obtain ⟨hx, hb, hr, hml, hown, hts0, hX, hbl, hlocks, hgv⟩ := C0
  have hts : ∀ w ∈ lw_tbl, w.before #[Value.ref b] s = true := hts0
  replace hown : s.vm.findClass RL = some m.cls := hown
  have hA : ∀ q : Nat, s.heap.size ≤ q → (fun q : Nat => s.heap.size ≤ q) q := fun _ h => h
  have hbA : ¬ (fun q : Nat => s.heap.size ≤ q) b := Nat.not_le.mpr hbl
  obtain ⟨r, g1, g2⟩ := op_count h (xs (x3 + 1).toNatClampNeg)
  refine lv_aload_n hx hb dL_law_743 rfl (lv_at hl 1 rfl) ?_
  refine lv_aload_n hx hb dL_law_744 rfl (lv_at hl 0 rfl) ?_
  refine lv_iload_n hx hb dL_law_745 rfl (lv_at hl 3 rfl) ?_
  refine lv_iconst (v := 1) hx hb dL_law_746 (by decide) ?_
  refine lv_iadd hx hb dL_law_747 ?_
  refine va_sld hx hb hX hbl hbA hw.2.2 h1 dL_law_748 ?_
  have fr := fr_L6 o u cA oX oP oD oR oT oB oC oG oM oX oP oD oR oT oB oC oG
  refine go_i (run_v (As := [.int (xs (x3 + 1).toNatClampNeg)]) (rest := []) ⟨hx, hb, hml, hown, hts⟩ (k_X6_count l D cA tx ty o oX oP oD oR oT oB oC oG (xs (x3 + 1).toNatClampNeg) r  g1 H.size) (cwV 1 hts gL_law_X6_count rfl rfl rfl hd_X6_count ⟨Nat.le_of_ble_eq_true rfl, Nat.le_of_ble_eq_true rfl⟩) fr hw hK hA (z_X_ok tx ty) hZ (ci := 6) rfl rfl rfl rfl hl.1 rfl (Nat.le_of_ble_eq_true rfl) dL_law_749 ⟨Nat.le_of_ble_eq_true rfl, Nat.le_of_ble_eq_true rfl⟩) fr hw hA (fun H locs hw => ?_)
  refine lv_aload_n hx hb dL_law_752 rfl (lv_at hl 2 rfl) ?_
  refine lv_aload_n hx hb dL_law_753 rfl (lv_at hl 0 rfl) ?_
  refine lv_iload_n hx hb dL_law_754 rfl (lv_at hl 3 rfl) ?_
  refine lv_iconst (v := 1) hx hb dL_law_755 (by decide) ?_
  refine lv_iadd hx hb dL_law_756 ?_
  refine va_sld hx hb hX hbl hbA hw.2.2 h1 dL_law_757 ?_
  have fr := fr_L7 o u cA oX oP oD oR oT oB oC oG oM oM
  refine go_i (run_v (As := [.int (xs (x3 + 1).toNatClampNeg)]) (rest := [.int r]) ⟨hx, hb, hml, hown, hts⟩ (k_X7_count l D cA u oM (xs (x3 + 1).toNatClampNeg) r  g2 H.size) (cwV 1 hts gL_law_X7_count rfl rfl rfl hd_X7_count ⟨Nat.le_of_ble_eq_true rfl, Nat.le_of_ble_eq_true rfl⟩) fr hw hK hA z_0_ok trivial (ci := 7) rfl rfl rfl rfl hl.1 rfl (Nat.le_of_ble_eq_true rfl) dL_law_758 ⟨Nat.le_of_ble_eq_true rfl, Nat.le_of_ble_eq_true rfl⟩) fr hw hA (fun H locs hw => ?_)
  exact lv_icmp_eq (tgt := 780) hx hb dL_law_761 (by decide) (fun _ => kk oX oP oD oR oT oB oC oG oM H locs h hw) (fun c1 => absurd rfl c1)
set_option maxHeartbeats 4000000 in
set_option maxRecDepth 100000 in
theorem law_digest {p : Program} {l : Launch} {e : Env} {s : State} {m : MethodId} {below : List Frame} {meth : Method} {c : Code} {D : va_G} {cA : ClassId} {tx ty : Nat} {o u : Nat → Nat} {b L : Nat} {xs : Nat → Int32} (C0 : lw_At p s m meth c b L xs) (hK : va_K D vwCl [(cA, .int)] s) (hZ : z_X tx ty (fun q : Nat => s.heap.size ≤ q) s s.heap) {x3 : Int32} (h1 : vp_in (x3 + 1) L) (h2 : vp_in (x3 + 2) L) (h3 : vp_in (x3 + 3) L) (h4 : vp_in (x3 + 4) L) {oX oP oD oR oT oB oC oG oM : St} (h : REL oX oP oR oT oB oM) {H : Heap} {locs : List Loc} {ls : Array Slot} (hw : Wd D (fun q : Nat => s.heap.size ≤ q) s.heap H locs (wL o u cA oX oP oD oR oT oB oC oG oM)) (hl : lv_has ls 4 [(0, .ref b), (1, .ref (o 0)), (2, .ref (u 0)), (3, .int x3)])
    (kk : ∀ (oX oP oD oR oT oB oC oG oM : St) (H : Heap) (locs : List Loc), REL oX oP oR oT oB oM → Wd D (fun q : Nat => s.heap.size ≤ q) s.heap H locs (wL o u cA oX oP oD oR oT oB oC oG oM) → W p l e room_1 s m #[Value.ref b] below meth c H locs 37 3001 (lw_Z below #[Value.ref b] s) (F0 m 780 ls [])) : W p l e room_1 s m #[Value.ref b] below meth c H locs 37 3001 (lw_Z below #[Value.ref b] s) (F0 m 766 ls []) := by
  obtain ⟨hx, hb, hr, hml, hown, hts0, hX, hbl, hlocks, hgv⟩ := C0
  have hts : ∀ w ∈ lw_tbl, w.before #[Value.ref b] s = true := hts0
  replace hown : s.vm.findClass RL = some m.cls := hown
  have hA : ∀ q : Nat, s.heap.size ≤ q → (fun q : Nat => s.heap.size ≤ q) q := fun _ h => h
  have hbA : ¬ (fun q : Nat => s.heap.size ≤ q) b := Nat.not_le.mpr hbl
  obtain ⟨r, oT1, oC1, oG1, oM1, g1, g2, hk, hT⟩ := op_digest h oC oG
  have h := REL.k h hk hT
  refine lv_aload_n hx hb dL_law_766 rfl (lv_at hl 1 rfl) ?_
  have fr := fr_L6 o u cA oX oP oD oR oT oB oC oG oM oX oP oD oR oT1 oB oC1 oG1
  refine go_l (run_v (As := []) (rest := []) ⟨hx, hb, hml, hown, hts⟩ (k_X6_digest l D cA tx ty o oX oP oD oR oT oB oC oG  r oT1 oC1 oG1 g1 H.size) (cwV 0 hts gL_law_X6_digest rfl rfl rfl hd_X6_digest ⟨Nat.le_of_ble_eq_true rfl, Nat.le_of_ble_eq_true rfl⟩) fr hw hK hA (z_X_ok tx ty) hZ (ci := 6) rfl rfl rfl rfl hl.1 rfl (Nat.le_of_ble_eq_true rfl) dL_law_767 ⟨Nat.le_of_ble_eq_true rfl, Nat.le_of_ble_eq_true rfl⟩) fr hw hA (fun H locs hw => ?_)
  refine lv_aload_n hx hb dL_law_770 rfl (lv_at hl 2 rfl) ?_
  have fr := fr_L7 o u cA oX oP oD oR oT1 oB oC1 oG1 oM oM1
  refine go_l (run_v (As := []) (rest := [.long r]) ⟨hx, hb, hml, hown, hts⟩ (k_X7_digest l D cA u oM  r oM1 g2 H.size) (cwV 0 hts gL_law_X7_digest rfl rfl rfl hd_X7_digest ⟨Nat.le_of_ble_eq_true rfl, Nat.le_of_ble_eq_true rfl⟩) fr hw hK hA z_0_ok trivial (ci := 7) rfl rfl rfl rfl hl.1 rfl (Nat.le_of_ble_eq_true rfl) dL_law_771 ⟨Nat.le_of_ble_eq_true rfl, Nat.le_of_ble_eq_true rfl⟩) fr hw hA (fun H locs hw => ?_)
  refine W.lcmp hx hb dL_law_774 ?_
  exact lv_if_eq (tgt := 780) hx hb dL_law_775 (by decide) (fun _ => kk oX oP oD oR oT1 oB oC1 oG1 oM1 H locs h hw) (fun c1 => absurd (lg_same r) c1)
