def st0 : St := (fun _ => 0, fun _ => 0, fun _ _ => 0)
theorem REL.zero : REL st0 st0 st0 st0 st0 st0 := by
  have z : ∀ k, (st0.1 k).toInt = 0 := fun _ => rfl
  refine ⟨0, ⟨by omega, nI_0.symm, by rw [z]; omega, by rw [z]; omega, by rw [z]; omega, by rw [z]; omega, by rw [z]; omega, by rw [z]; omega, by rw [z]; omega, fun j hj => absurd hj (Nat.not_lt_zero j), fun _ => rfl, fun h => ?_⟩, ⟨rfl, rfl, nI_0.symm, fun j hj => absurd hj (Nat.not_lt_zero j), rfl, rfl, rfl, rfl, rfl⟩, Or.inl rfl, ⟨0, by omega, nI_0.symm, nI_0.symm, fun j hj => absurd hj (Nat.not_lt_zero j)⟩, Or.inl ⟨rfl, rfl, rfl⟩, rfl, rfl, rfl⟩
  rw [z] at h
  omega
theorem law_le0 : ∀ L, L < 5 → ∀ i, i < 5 → Int32.ofNat L - 5 < nI i := by decide +kernel
theorem law_le {L i : Nat} (hL : L ≤ 2560) (hi : i ≤ L) (h : ¬ (Int32.ofNat L - 5 < nI i)) : i + 5 ≤ L := by
  rcases Nat.lt_or_ge L 5 with q | q
  · exact absurd (law_le0 L q i (by omega)) h
  · have e : Int32.ofNat L - 5 = nI (L - 5) := nI_sub (b := 5) q
    rw [e] at h
    have h2 : ¬ (L - 5 < i) := fun z => h (nI_lt z (by omega))
    omega
set_option maxHeartbeats 4000000 in
set_option maxRecDepth 100000 in
theorem zX_start {s : State} {b : Nat} (hts : ∀ w ∈ lw_tbl, w.before #[Value.ref b] s = true) (hgv : (Jvm.Cond.and given_1 narrow_1).before #[Value.ref b] s = true) : ∃ tx ty : Nat, z_X tx ty (fun q : Nat => s.heap.size ≤ q) s s.heap := by
  have hs := flat_of_before _ hgv
  have hA : ∀ a : Nat, a < s.heap.size → ¬ (fun q : Nat => s.heap.size ≤ q) a := fun a h q => absurd h (Nat.not_lt.mpr q)
  have elX : ∀ j : Nat, j < 8 → (Term.elem (.static "ArcRings" "TURN_X" "[I") (.int (Int32.ofNat j))).eval #[Value.ref b] s none [] s = some (.int (z_tX j)) := by
    intro j hj
    match j, hj with
    | 0, _ => exact va_eqt (hs (Cond.eq (.elem (.static "ArcRings" "TURN_X" "[I") (.int 0)) (.int 1)) (by decide +kernel))
    | 1, _ => exact va_eqt (hs (Cond.eq (.elem (.static "ArcRings" "TURN_X" "[I") (.int 1)) (.int 1)) (by decide +kernel))
    | 2, _ => exact va_eqt (hs (Cond.eq (.elem (.static "ArcRings" "TURN_X" "[I") (.int 2)) (.int 0)) (by decide +kernel))
    | 3, _ => exact va_eqt (hs (Cond.eq (.elem (.static "ArcRings" "TURN_X" "[I") (.int 3)) (.int (-1))) (by decide +kernel))
    | 4, _ => exact va_eqt (hs (Cond.eq (.elem (.static "ArcRings" "TURN_X" "[I") (.int 4)) (.int (-1))) (by decide +kernel))
    | 5, _ => exact va_eqt (hs (Cond.eq (.elem (.static "ArcRings" "TURN_X" "[I") (.int 5)) (.int (-1))) (by decide +kernel))
    | 6, _ => exact va_eqt (hs (Cond.eq (.elem (.static "ArcRings" "TURN_X" "[I") (.int 6)) (.int 0)) (by decide +kernel))
    | 7, _ => exact va_eqt (hs (Cond.eq (.elem (.static "ArcRings" "TURN_X" "[I") (.int 7)) (.int 1)) (by decide +kernel))
    | k + 8, hj => omega
  obtain ⟨tX, eX, hTX⟩ := va_Tof (tm := .static "ArcRings" "TURN_X" "[I") (ty := .int) (N := 8) (f := fun j => .int (z_tX j)) (A := fun q : Nat => s.heap.size ≤ q) (by decide) (hs (Cond.arrayOf (.static "ArcRings" "TURN_X" "[I") .int) (by decide +kernel)) (va_eqt (hs (Cond.eq (.length (.static "ArcRings" "TURN_X" "[I")) (.int 8)) (by decide +kernel))) elX hA
  have elY : ∀ j : Nat, j < 8 → (Term.elem (.static "ArcRings" "TURN_Y" "[I") (.int (Int32.ofNat j))).eval #[Value.ref b] s none [] s = some (.int (z_tY j)) := by
    intro j hj
    match j, hj with
    | 0, _ => exact va_eqt (hs (Cond.eq (.elem (.static "ArcRings" "TURN_Y" "[I") (.int 0)) (.int 0)) (by decide +kernel))
    | 1, _ => exact va_eqt (hs (Cond.eq (.elem (.static "ArcRings" "TURN_Y" "[I") (.int 1)) (.int 1)) (by decide +kernel))
    | 2, _ => exact va_eqt (hs (Cond.eq (.elem (.static "ArcRings" "TURN_Y" "[I") (.int 2)) (.int 1)) (by decide +kernel))
    | 3, _ => exact va_eqt (hs (Cond.eq (.elem (.static "ArcRings" "TURN_Y" "[I") (.int 3)) (.int 1)) (by decide +kernel))
    | 4, _ => exact va_eqt (hs (Cond.eq (.elem (.static "ArcRings" "TURN_Y" "[I") (.int 4)) (.int 0)) (by decide +kernel))
    | 5, _ => exact va_eqt (hs (Cond.eq (.elem (.static "ArcRings" "TURN_Y" "[I") (.int 5)) (.int (-1))) (by decide +kernel))
    | 6, _ => exact va_eqt (hs (Cond.eq (.elem (.static "ArcRings" "TURN_Y" "[I") (.int 6)) (.int (-1))) (by decide +kernel))
    | 7, _ => exact va_eqt (hs (Cond.eq (.elem (.static "ArcRings" "TURN_Y" "[I") (.int 7)) (.int (-1))) (by decide +kernel))
    | k + 8, hj => omega
  obtain ⟨tY, eY, hTY⟩ := va_Tof (tm := .static "ArcRings" "TURN_Y" "[I") (ty := .int) (N := 8) (f := fun j => .int (z_tY j)) (A := fun q : Nat => s.heap.size ≤ q) (by decide) (hs (Cond.arrayOf (.static "ArcRings" "TURN_Y" "[I") .int) (by decide +kernel)) (va_eqt (hs (Cond.eq (.length (.static "ArcRings" "TURN_Y" "[I")) (.int 8)) (by decide +kernel))) elY hA
  have hini := hts (.initialized "ArcRings") (by decide +kernel)
  refine ⟨tX, tY, va_Zref (hts (.laysStatic "ArcRings" "TURN_X" "[I") (by decide +kernel)) hini eX hA, va_Zref (hts (.laysStatic "ArcRings" "TURN_Y" "[I") (by decide +kernel)) hini eY hA, hTX, hTY, ?_, ?_⟩
  · have h : ∀ q ∈ z_nF, (Cond.fieldLinkNest q.1 q.2.1 q.2.2.1 q.2.2.2.1 q.2.2.2.2 "ArcRings") ∈ lw_tbl := by decide +kernel
    exact fun q hq => va_Nw.of rfl (hts _ (h q hq))
  · have h : ∀ q ∈ z_nM, (Cond.methodLinkNest q.1 q.2.1 q.2.2 "ArcRings") ∈ lw_tbl := by decide +kernel
    exact fun q hq => va_Nw.of rfl (hts _ (h q hq))
set_option maxHeartbeats 4000000 in
set_option maxRecDepth 100000 in
theorem law_loop {p : Program} {l : Launch} {e : Env} {s : State} {m : MethodId} {below : List Frame} {meth : Method} {c : Code} {D : va_G} {cA : ClassId} {tx ty : Nat} {o u : Nat → Nat} {b L : Nat} {xs : Nat → Int32} (hL : L ≤ 2560) (C0 : lw_At p s m meth c b L xs) (hK : va_K D vwCl [(cA, .int)] s) (hZ : z_X tx ty (fun q : Nat => s.heap.size ≤ q) s s.heap) :
    ∀ (n i : Nat) (x3 : Int32), i ≤ L → L + 1 ≤ i + n → x3 = nI i → ∀ (oX oP oD oR oT oB oC oG oM : St) (H : Heap) (locs : List Loc) (ls : Array Slot), REL oX oP oR oT oB oM → Wd D (fun q : Nat => s.heap.size ≤ q) s.heap H locs (wL o u cA oX oP oD oR oT oB oC oG oM) → lv_has ls 4 [(0, .ref b), (1, .ref (o 0)), (2, .ref (u 0)), (3, .int x3)] → W p l e room_1 s m #[Value.ref b] below meth c H locs 37 3001 (lw_Z below #[Value.ref b] s) (F0 m 18 ls []) := by
  obtain ⟨hx, hb, hr, hml, hown, hts, hX, hbl, hlocks, hgv⟩ := id C0
  have hbA : ¬ (fun q : Nat => s.heap.size ≤ q) b := Nat.not_le.mpr hbl
  intro n
  induction n with
  | zero =>
    intro i x3 h1 h2
    exact absurd h2 (by omega)
  | succ n ih =>
    intro i x3 hi hin ex oX oP oD oR oT oB oC oG oM H locs ls h hw hl
    refine lv_iload_n hx hb dL_law_18 rfl (lv_at hl 3 rfl) ?_
    refine lv_aload_n hx hb dL_law_19 rfl (lv_at hl 0 rfl) ?_
    refine va_slen hx hb hX hbl hbA hw.2.2 dL_law_20 ?_
    refine lv_iconst (v := 5) hx hb dL_law_21 (by decide) ?_
    refine lv_isub hx hb dL_law_22 ?_
    refine lv_icmp_gt (tgt := 786) hx hb dL_law_23 (by decide) (fun c0 => ?_) (fun c0 => ?_)
    · refine lv_iconst (v := 1) hx hb dL_law_786 (by decide) ?_
      refine va_forget (fun q hq => hw.2.2.2.2 q hq) ?_
      exact lw_ret hx hb hr hlocks dL_law_787
    · have hlt : i + 5 ≤ L := law_le hL hi (by rw [← ex]; exact c0)
      have h0 : vp_in x3 L := by rw [ex]; exact vp_in_nI (by omega) (by omega)
      have h1 : vp_in (x3 + 1) L := by rw [ex, show nI i + 1 = nI (i + 1) from nI_add i 1]; exact vp_in_nI (by omega) (by omega)
      have h2 : vp_in (x3 + 2) L := by rw [ex, show nI i + 2 = nI (i + 2) from nI_add i 2]; exact vp_in_nI (by omega) (by omega)
      have h3 : vp_in (x3 + 3) L := by rw [ex, show nI i + 3 = nI (i + 3) from nI_add i 3]; exact vp_in_nI (by omega) (by omega)
      have h4 : vp_in (x3 + 4) L := by rw [ex, show nI i + 4 = nI (i + 4) from nI_add i 4]; exact vp_in_nI (by omega) (by omega)
      have kk : ∀ (oX oP oD oR oT oB oC oG oM : St) (H : Heap) (locs : List Loc), REL oX oP oR oT oB oM → Wd D (fun q : Nat => s.heap.size ≤ q) s.heap H locs (wL o u cA oX oP oD oR oT oB oC oG oM) → W p l e room_1 s m #[Value.ref b] below meth c H locs 37 3001 (lw_Z below #[Value.ref b] s) (F0 m 780 ls []) := by
        intro oX oP oD oR oT oB oC oG oM H locs h hw
        obtain ⟨x5, e5⟩ : ∃ y : Int32, y = x3 + 5 := ⟨_, rfl⟩
        refine lv_iinc (v := x5) (lv' := [(3, .int x5), (0, .ref b), (1, .ref (o 0)), (2, .ref (u 0))]) hx hb dL_law_780 hl (k := 3) rfl (by rw [e5]; rfl) (by decide) rfl (fun ls hl => ?_)
        refine lv_goto (tgt := 18) hx hb dL_law_783 (by decide) ?_
        exact ih (i + 5) x5 hlt (by omega) (by rw [e5, ex]; exact nI_add i 5) oX oP oD oR oT oB oC oG oM H locs ls h hw (lv_sub hl [1, 2, 3, 0] rfl)
      refine lv_aload_n hx hb dL_law_26 rfl (lv_at hl 0 rfl) ?_
      refine lv_iload_n hx hb dL_law_27 rfl (lv_at hl 3 rfl) ?_
      refine va_sld hx hb hX hbl hbA hw.2.2 h0 dL_law_28 ?_
      refine lv_bipush (v := 31) hx hb dL_law_29 (by decide) ?_
      refine lv_iand hx hb dL_law_31 ?_
      refine lv_topi (fun y ey => ?_)
      clear ey
      by_cases c1 : y = 0
      · refine lv_tableIn (tgt := 140) hx hb dL_law_32 (by rw [c1]; decide) (by rw [c1]; decide) (by rw [c1]; rfl) (by decide) ?_
        exact law_letter C0 hK hZ h1 h2 h3 h4 h hw hl kk
      by_cases c2 : y = 1
      · refine lv_tableIn (tgt := 163) hx hb dL_law_32 (by rw [c2]; decide) (by rw [c2]; decide) (by rw [c2]; rfl) (by decide) ?_
        exact law_blank C0 hK hZ h1 h2 h3 h4 h hw hl kk
      by_cases c3 : y = 2
      · refine lv_tableIn (tgt := 176) hx hb dL_law_32 (by rw [c3]; decide) (by rw [c3]; decide) (by rw [c3]; rfl) (by decide) ?_
        exact law_fault C0 hK hZ h1 h2 h3 h4 h hw hl kk
      by_cases c4 : y = 3
      · refine lv_tableIn (tgt := 189) hx hb dL_law_32 (by rw [c4]; decide) (by rw [c4]; decide) (by rw [c4]; rfl) (by decide) ?_
        exact law_sheet C0 hK hZ h1 h2 h3 h4 h hw hl kk
      by_cases c5 : y = 4
      · refine lv_tableIn (tgt := 202) hx hb dL_law_32 (by rw [c5]; decide) (by rw [c5]; decide) (by rw [c5]; rfl) (by decide) ?_
        exact law_ink C0 hK hZ h1 h2 h3 h4 h hw hl kk
      by_cases c6 : y = 5
      · refine lv_tableIn (tgt := 225) hx hb dL_law_32 (by rw [c6]; decide) (by rw [c6]; decide) (by rw [c6]; rfl) (by decide) ?_
        exact law_dot C0 hK hZ h1 h2 h3 h4 h hw hl kk
      by_cases c7 : y = 6
      · refine lv_tableIn (tgt := 268) hx hb dL_law_32 (by rw [c7]; decide) (by rw [c7]; decide) (by rw [c7]; rfl) (by decide) ?_
        exact law_lift C0 hK hZ h1 h2 h3 h4 h hw hl kk
      by_cases c8 : y = 7
      · refine lv_tableIn (tgt := 291) hx hb dL_law_32 (by rw [c8]; decide) (by rw [c8]; decide) (by rw [c8]; rfl) (by decide) ?_
        exact law_arc C0 hK hZ h1 h2 h3 h4 h hw hl kk
      by_cases c9 : y = 8
      · refine lv_tableIn (tgt := 344) hx hb dL_law_32 (by rw [c9]; decide) (by rw [c9]; decide) (by rw [c9]; rfl) (by decide) ?_
        exact law_strew C0 hK hZ h1 h2 h3 h4 h hw hl kk
      by_cases c10 : y = 9
      · refine lv_tableIn (tgt := 377) hx hb dL_law_32 (by rw [c10]; decide) (by rw [c10]; decide) (by rw [c10]; rfl) (by decide) ?_
        exact law_told C0 hK hZ h1 h2 h3 h4 h hw hl kk
      by_cases c11 : y = 10
      · refine lv_tableIn (tgt := 410) hx hb dL_law_32 (by rw [c11]; decide) (by rw [c11]; decide) (by rw [c11]; rfl) (by decide) ?_
        exact law_about C0 hK hZ h1 h2 h3 h4 h hw hl kk
      by_cases c12 : y = 11
      · refine lv_tableIn (tgt := 433) hx hb dL_law_32 (by rw [c12]; decide) (by rw [c12]; decide) (by rw [c12]; rfl) (by decide) ?_
        exact law_bound C0 hK hZ h1 h2 h3 h4 h hw hl kk
      by_cases c13 : y = 12
      · refine lv_tableIn (tgt := 466) hx hb dL_law_32 (by rw [c13]; decide) (by rw [c13]; decide) (by rw [c13]; rfl) (by decide) ?_
        exact law_circle C0 hK hZ h1 h2 h3 h4 h hw hl kk
      by_cases c14 : y = 13
      · refine lv_tableIn (tgt := 519) hx hb dL_law_32 (by rw [c14]; decide) (by rw [c14]; decide) (by rw [c14]; rfl) (by decide) ?_
        exact law_votes C0 hK hZ h1 h2 h3 h4 h hw hl kk
      by_cases c15 : y = 14
      · refine lv_tableIn (tgt := 562) hx hb dL_law_32 (by rw [c15]; decide) (by rw [c15]; decide) (by rw [c15]; rfl) (by decide) ?_
        exact law_spot C0 hK hZ h1 h2 h3 h4 h hw hl kk
      by_cases c16 : y = 15
      · refine lv_tableIn (tgt := 595) hx hb dL_law_32 (by rw [c16]; decide) (by rw [c16]; decide) (by rw [c16]; rfl) (by decide) ?_
        exact law_spots C0 hK hZ h1 h2 h3 h4 h hw hl kk
      by_cases c17 : y = 16
      · refine lv_tableIn (tgt := 618) hx hb dL_law_32 (by rw [c17]; decide) (by rw [c17]; decide) (by rw [c17]; rfl) (by decide) ?_
        exact law_hunt C0 hK hZ h1 h2 h3 h4 h hw hl kk
      by_cases c18 : y = 17
      · refine lv_tableIn (tgt := 631) hx hb dL_law_32 (by rw [c18]; decide) (by rw [c18]; decide) (by rw [c18]; rfl) (by decide) ?_
        exact law_split C0 hK hZ h1 h2 h3 h4 h hw hl kk
      by_cases c19 : y = 18
      · refine lv_tableIn (tgt := 644) hx hb dL_law_32 (by rw [c19]; decide) (by rw [c19]; decide) (by rw [c19]; rfl) (by decide) ?_
        exact law_ring C0 hK hZ h1 h2 h3 h4 h hw hl kk
      by_cases c20 : y = 19
      · refine lv_tableIn (tgt := 677) hx hb dL_law_32 (by rw [c20]; decide) (by rw [c20]; decide) (by rw [c20]; rfl) (by decide) ?_
        exact law_as C0 hK hZ h1 h2 h3 h4 h hw hl kk
      by_cases c21 : y = 20
      · refine lv_tableIn (tgt := 710) hx hb dL_law_32 (by rw [c21]; decide) (by rw [c21]; decide) (by rw [c21]; rfl) (by decide) ?_
        exact law_cross C0 hK hZ h1 h2 h3 h4 h hw hl kk
      by_cases c22 : y = 21
      · refine lv_tableIn (tgt := 743) hx hb dL_law_32 (by rw [c22]; decide) (by rw [c22]; decide) (by rw [c22]; rfl) (by decide) ?_
        exact law_count C0 hK hZ h1 h2 h3 h4 h hw hl kk
      by_cases c23 : y = 22
      · refine lv_tableIn (tgt := 766) hx hb dL_law_32 (by rw [c23]; decide) (by rw [c23]; decide) (by rw [c23]; rfl) (by decide) ?_
        exact law_digest C0 hK hZ h1 h2 h3 h4 h hw hl kk
      refine lv_tableOut (tgt := 780) hx hb dL_law_32 (w_out (n := 23) (by decide) (fun k hk => ?_)) (by decide) (kk oX oP oD oR oT oB oC oG oM H locs h hw)
      match k, hk with
      | 0, _ => exact c1
      | 1, _ => exact c2
      | 2, _ => exact c3
      | 3, _ => exact c4
      | 4, _ => exact c5
      | 5, _ => exact c6
      | 6, _ => exact c7
      | 7, _ => exact c8
      | 8, _ => exact c9
      | 9, _ => exact c10
      | 10, _ => exact c11
      | 11, _ => exact c12
      | 12, _ => exact c13
      | 13, _ => exact c14
      | 14, _ => exact c15
      | 15, _ => exact c16
      | 16, _ => exact c17
      | 17, _ => exact c18
      | 18, _ => exact c19
      | 19, _ => exact c20
      | 20, _ => exact c21
      | 21, _ => exact c22
      | 22, _ => exact c23
      | k + 23, hk => omega
set_option maxHeartbeats 4000000 in
set_option maxRecDepth 100000 in
/-- the law, from its entry -/
theorem whole_start {p : Program} {e : Env} {s : State} {m : MethodId} {below : List Frame} {meth : Method} {c : Code} (l : Launch) (hflags : l.flags = flags0) {b L : Nat} {xs : Nat → Int32} (hL : L ≤ 2560) (C0 : lw_At p s m meth c b L xs) : W p l e room_1 s m #[Value.ref b] below meth c s.heap [] 0 0 (lw_Z below #[Value.ref b] s) (entryFrame m ([Value.ref b] : List Value).toArray 4) := by
  obtain ⟨hx, hb, hr, hml, hown, hts0, hX, hbl, hlocks, hgv⟩ := id C0
  have hts : ∀ w ∈ lw_tbl, w.before #[Value.ref b] s = true := hts0
  replace hown : s.vm.findClass RL = some m.cls := hown
  have hA : ∀ q : Nat, s.heap.size ≤ q → (fun q : Nat => s.heap.size ≤ q) q := fun _ h => h
  obtain ⟨c0, i0, n0⟩ := u_known (C := RX0) (T := TX0) (N := 11) (n := 11) hts0 inX0 (hts0 (.instantiable RX0 11) (by decide +kernel))
  obtain ⟨c1, i1, n1⟩ := u_known (C := RX1) (T := TX1) (N := 7) (n := 7) hts0 inX1 (hts0 (.instantiable RX1 7) (by decide +kernel))
  obtain ⟨c2, i2, n2⟩ := u_known (C := RX2) (T := TX2) (N := 7) (n := 7) hts0 inX2 (hts0 (.instantiable RX2 7) (by decide +kernel))
  obtain ⟨c3, i3, n3⟩ := u_known (C := RX3) (T := TX3) (N := 7) (n := 7) hts0 inX3 (hts0 (.instantiable RX3 7) (by decide +kernel))
  obtain ⟨c4, i4, n4⟩ := u_known (C := RX4) (T := TX4) (N := 4) (n := 4) hts0 inX4 (hts0 (.instantiable RX4 4) (by decide +kernel))
  obtain ⟨c5, i5, n5⟩ := u_known (C := RX5) (T := TX5) (N := 10) (n := 10) hts0 inX5 (hts0 (.instantiable RX5 10) (by decide +kernel))
  obtain ⟨c6, i6, n6⟩ := u_known (C := RX6) (T := TX6) (N := 9) (n := 9) hts0 inX6 (hts0 (.instantiable RX6 9) (by decide +kernel))
  obtain ⟨c7, i7, n7⟩ := u_known (C := RX7) (T := TX7) (N := 44) (n := 44) hts0 inX7 (hts0 (.instantiable RX7 44) (by decide +kernel))
  obtain ⟨D, hD⟩ : ∃ D : va_G, ∀ (k : Nat) (q : vw_C), vwCl[k]? = some q → u_Kn s q.1 q.2.1 q.2.2 (D.1 k) (D.2 k) := by
    refine ⟨(fun k => match k with | 0 => c0 | 1 => c1 | 2 => c2 | 3 => c3 | 4 => c4 | 5 => c5 | 6 => c6 | _ => c7, fun k => match k with | 0 => i0 | 1 => i1 | 2 => i2 | 3 => i3 | 4 => i4 | 5 => i5 | 6 => i6 | _ => i7), ?_⟩
    intro k q hq
    match k, hq with
    | 0, hq => cases hq; exact n0
    | 1, hq => cases hq; exact n1
    | 2, hq => cases hq; exact n2
    | 3, hq => cases hq; exact n3
    | 4, hq => cases hq; exact n4
    | 5, hq => cases hq; exact n5
    | 6, hq => cases hq; exact n6
    | 7, hq => cases hq; exact n7
    | k + 8, hq => simp [vwCl] at hq
  obtain ⟨cA, kA, comp, f1, f2, f3⟩ := Cond.arrayClass_spec (hts0 (.arrayClass .int) (by decide +kernel))
  have hK : va_K D vwCl [(cA, .int)] s := by
    refine ⟨hD, fun k q hq => ?_⟩
    match k, hq with
    | 0, hq => cases hq; exact ⟨fun n z => ⟨fun k h => (by cases h), kA, f2, comp, f3⟩, f1⟩
    | k + 1, hq => simp at hq
  obtain ⟨tx, ty, hZ⟩ := zX_start hts0 hgv
  have hl := lv_entry ([.ref b]) (n := 4) (Nat.le_of_ble_eq_true rfl)
  rw [lg_entry_eq]
  generalize (lg_sl ([.ref b]) ++ List.replicate (4 - (lg_sl ([.ref b])).length) Slot.unset).toArray = ls at hl ⊢
  have hl : lv_has ls 4 [(0, .ref b)] := hl
  have hw : Wd D (fun q : Nat => s.heap.size ≤ q) s.heap s.heap [] [] := ⟨fun k q h => by simp at h, ⟨fun i j p q h => by simp at h, fun k q h => by simp at h⟩, va_S.rf⟩
  refine w_new (ci := 6) (fs := [.null, .null, .null, .null, .null, .null, .int 0, .int 0, .int 0]) (C := RX6) (T := TX6) (N := 9) hx hb hts0 inX6 tyX6 tyX6_ok hown (hts0 (.classLink RL 7 RX6) (by decide +kernel)) (hts0 (.instantiable RX6 9) (by decide +kernel)) (hts0 (.initialized RX6) (by decide +kernel)) hK hw hA rfl (by decide) (Nat.le_of_ble_eq_true rfl) (Nat.le_of_ble_eq_true rfl) dL_law_0 (fun q6 H hw => ?_)
  refine W.widen (k := 1) (n := 9) (Nat.le_of_ble_eq_true rfl) (Nat.le_of_ble_eq_true rfl) ?_
  have hw : Wd D (fun q : Nat => s.heap.size ≤ q) s.heap H [] [(q6, .inr (6, [.null, .null, .null, .null, .null, .null, .int 0, .int 0, .int 0]))] := hw
  refine lv_dup hx hb dL_law_3 rfl ?_
  refine go_c (isC := [0]) (isR := []) (wr := []) (va_runI (As := []) (rest := [.ref q6]) ⟨hx, hb, hml, hown, hts⟩ (k_X6_init l D cA tx ty q6 H.size) (cwI 0 hts gL_law_X6_init rfl rfl rfl (hts0 (.initialized RX6) (by decide +kernel)) (hts0 (.methodLink RL 9 yX6_init) (by decide +kernel)) (hts0 (.instanceMethod yX6_init) (by decide +kernel)) rfl (by decide +kernel) ⟨Nat.le_of_ble_eq_true rfl, Nat.le_of_ble_eq_true rfl⟩) (pre_c (Z := z_X tx ty) (wc := [(q6, .inr (6, [.null, .null, .null, .null, .null, .null, .int 0, .int 0, .int 0]))]) (isC := [0]) rfl rfl hw hK hA (z_X_ok tx ty) hZ) rfl rfl hl.1 rfl (lv_room (Nat.le_of_ble_eq_true rfl)) dL_law_4 ⟨Nat.le_of_ble_eq_true rfl, Nat.le_of_ble_eq_true rfl⟩) rfl rfl rfl (by decide) hw hA (fun o6 H locs hw => ?_)
  refine W.widen (k := 20) (n := 1306) (Nat.le_of_ble_eq_true rfl) (Nat.le_of_ble_eq_true rfl) ?_
  obtain ⟨o, ho⟩ : ∃ o : Nat → Nat, o = fun k => match k with | 0 => q6 | k + 1 => o6 k := ⟨_, rfl⟩
  have eo : q6 = o 0 := by rw [ho]
  have hw : Wd D (fun q : Nat => s.heap.size ≤ q) s.heap H locs (wX6 o cA st0 st0 st0 st0 st0 st0 st0 st0) := by
    rw [ho]
    exact hw.sub [0, 1, 2, 3, 4, 5, 6, 17, 18, 19, 13, 14, 15, 16, 7, 8, 9, 10, 11, 12] (by decide) rfl
  rw [eo]
  clear ho eo
  refine lv_astore_n (lv' := [(1, .ref (o 0)), (0, .ref b)]) hx hb dL_law_7 rfl hl (by decide) rfl (fun ls hl => ?_)
  refine w_new (ci := 7) (fs := [.int 0, .null, .int 0, .int 0, .int 0, .int 0, .null, .null, .null, .null, .int 0, .int 0, .null, .null, .null, .null, .int 0, .int 0, .int 0, .int 0, .int 0, .int 0, .int 0, .null, .null, .null, .int 0, .int 0, .int 0, .long 0, .long 0, .long 0, .long 0, .int 0, .int 0, .int 0, .int 0, .int 0, .int 0, .null, .null, .null, .null, .long 0]) (C := RX7) (T := TX7) (N := 44) hx hb hts0 inX7 tyX7 tyX7_ok hown (hts0 (.classLink RL 10 RX7) (by decide +kernel)) (hts0 (.instantiable RX7 44) (by decide +kernel)) (hts0 (.initialized RX7) (by decide +kernel)) hK hw hA rfl (by decide) (Nat.le_of_ble_eq_true rfl) (Nat.le_of_ble_eq_true rfl) dL_law_8 (fun q7 H hw => ?_)
  refine W.widen (k := 21) (n := 1350) (Nat.le_of_ble_eq_true rfl) (Nat.le_of_ble_eq_true rfl) ?_
  have hw : Wd D (fun q : Nat => s.heap.size ≤ q) s.heap H locs (wX6 o cA st0 st0 st0 st0 st0 st0 st0 st0 ++ [(q7, .inr (7, [.int 0, .null, .int 0, .int 0, .int 0, .int 0, .null, .null, .null, .null, .int 0, .int 0, .null, .null, .null, .null, .int 0, .int 0, .int 0, .int 0, .int 0, .int 0, .int 0, .null, .null, .null, .int 0, .int 0, .int 0, .long 0, .long 0, .long 0, .long 0, .int 0, .int 0, .int 0, .int 0, .int 0, .int 0, .null, .null, .null, .null, .long 0]))]) := hw
  refine lv_dup hx hb dL_law_11 rfl ?_
  refine go_c (isC := [20]) (isR := [0, 1, 2, 3, 4, 5, 6, 7, 8, 9, 10, 11, 12, 13, 14, 15, 16, 17, 18, 19]) (wr := wX6 o cA st0 st0 st0 st0 st0 st0 st0 st0) (va_runI (As := []) (rest := [.ref q7]) ⟨hx, hb, hml, hown, hts⟩ (k_X7_init l D cA q7 H.size) (cwI 0 hts gL_law_X7_init rfl rfl rfl (hts0 (.initialized RX7) (by decide +kernel)) (hts0 (.methodLink RL 12 yX7_init) (by decide +kernel)) (hts0 (.instanceMethod yX7_init) (by decide +kernel)) rfl (by decide +kernel) ⟨Nat.le_of_ble_eq_true rfl, Nat.le_of_ble_eq_true rfl⟩) (pre_c (Z := z_0) (wc := [(q7, .inr (7, [.int 0, .null, .int 0, .int 0, .int 0, .int 0, .null, .null, .null, .null, .int 0, .int 0, .null, .null, .null, .null, .int 0, .int 0, .int 0, .int 0, .int 0, .int 0, .int 0, .null, .null, .null, .int 0, .int 0, .int 0, .long 0, .long 0, .long 0, .long 0, .int 0, .int 0, .int 0, .int 0, .int 0, .int 0, .null, .null, .null, .null, .long 0]))]) (isC := [20]) rfl rfl hw hK hA z_0_ok trivial) rfl rfl hl.1 rfl (lv_room (Nat.le_of_ble_eq_true rfl)) dL_law_12 ⟨Nat.le_of_ble_eq_true rfl, Nat.le_of_ble_eq_true rfl⟩) rfl rfl rfl (by decide) hw hA (fun o7 H locs hw => ?_)
  refine W.widen (k := 37) (n := 3001) (Nat.le_of_ble_eq_true rfl) (Nat.le_of_ble_eq_true rfl) ?_
  obtain ⟨u, hu⟩ : ∃ u : Nat → Nat, u = fun k => match k with | 0 => q7 | k + 1 => o7 k := ⟨_, rfl⟩
  have eu : q7 = u 0 := by rw [hu]
  have hw : Wd D (fun q : Nat => s.heap.size ≤ q) s.heap H locs (wL o u cA st0 st0 st0 st0 st0 st0 st0 st0 st0) := by
    rw [hu]
    exact hw
  rw [eu]
  clear hu eu
  refine lv_astore_n (lv' := [(2, .ref (u 0)), (1, .ref (o 0)), (0, .ref b)]) hx hb dL_law_15 rfl hl (by decide) rfl (fun ls hl => ?_)
  refine lv_iconst (v := 0) hx hb dL_law_16 (by decide) ?_
  refine lv_istore_n (lv' := [(3, .int 0), (2, .ref (u 0)), (1, .ref (o 0)), (0, .ref b)]) hx hb dL_law_17 rfl hl (by decide) rfl (fun ls hl => ?_)
  exact law_loop hL C0 hK hZ (L + 1) 0 0 (Nat.zero_le L) (by omega) nI_0.symm st0 st0 st0 st0 st0 st0 st0 st0 st0 H locs ls REL.zero hw (lv_sub hl [3, 2, 1, 0] rfl)
