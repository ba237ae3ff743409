/-! states of objects: whole numbers, long numbers, rows, by the slots of their fields -/
abbrev St : Type := (Nat → Int32) × (Nat → Int64) × (Nat → Nat → Int32)
def sI (S : St) (k : Nat) (v : Int32) : St := (va_up S.1 k v, S.2.1, S.2.2)
def sL (S : St) (k : Nat) (v : Int64) : St := (S.1, va_up S.2.1 k v, S.2.2)
def sR (S : St) (k : Nat) (f : Nat → Int32) : St := (S.1, S.2.1, va_up S.2.2 k f)
def ag (n : Nat) (f : Nat → Int32) (i : Int32) : Option Int32 := if ¬ (i < 0 ∨ n ≤ i.toNatClampNeg) then some (f i.toNatClampNeg) else none
def au (n : Nat) (f : Nat → Int32) (i x : Int32) : Option (Nat → Int32) := if ¬ (i < 0 ∨ n ≤ i.toNatClampNeg) then some (upd f i.toNatClampNeg x) else none
def aw (n : Nat) (S : St) (k : Nat) (i x : Int32) : Option St := if ¬ (i < 0 ∨ n ≤ i.toNatClampNeg) then some (sR S k (upd (S.2.2 k) i.toNatClampNeg x)) else none
theorem ag_e {n : Nat} {f : Nat → Int32} {i v : Int32} (h : ag n f i = some v) : vp_in i n ∧ f i.toNatClampNeg = v := by
  unfold ag at h
  split at h
  · rename_i hc
    exact ⟨hc, by injection h⟩
  · cases h
theorem au_e {n : Nat} {f g : Nat → Int32} {i x : Int32} (h : au n f i x = some g) : vp_in i n ∧ upd f i.toNatClampNeg x = g := by
  unfold au at h
  split at h
  · rename_i hc
    exact ⟨hc, by injection h⟩
  · cases h
theorem aw_e {n k : Nat} {S S1 : St} {i x : Int32} (h : aw n S k i x = some S1) : vp_in i n ∧ sR S k (upd (S.2.2 k) i.toNatClampNeg x) = S1 := by
  unfold aw at h
  split at h
  · rename_i hc
    exact ⟨hc, by injection h⟩
  · cases h
section BN
variable {α β γ δ ε ζ η : Type}
def bn1 (o : Option α) (k : α → Option η) : Option η := o.bind k
def bn2 (o : Option (α × β)) (k : α → β → Option η) : Option η := o.bind (fun q => k q.1 q.2)
def bn3 (o : Option (α × β × γ)) (k : α → β → γ → Option η) : Option η := o.bind (fun q => k q.1 q.2.1 q.2.2)
def bn4 (o : Option (α × β × γ × δ)) (k : α → β → γ → δ → Option η) : Option η := o.bind (fun q => k q.1 q.2.1 q.2.2.1 q.2.2.2)
def bn5 (o : Option (α × β × γ × δ × ε)) (k : α → β → γ → δ → ε → Option η) : Option η := o.bind (fun q => k q.1 q.2.1 q.2.2.1 q.2.2.2.1 q.2.2.2.2)
def bn6 (o : Option (α × β × γ × δ × ε × ζ)) (k : α → β → γ → δ → ε → ζ → Option η) : Option η := o.bind (fun q => k q.1 q.2.1 q.2.2.1 q.2.2.2.1 q.2.2.2.2.1 q.2.2.2.2.2)
theorem bn1_e {o : Option α} {k : α → Option η} {x : η} (h : bn1 o k = some x) : ∃ a, o = some a ∧ k a = some x := by
  cases o with
  | none => cases h
  | some a => exact ⟨a, rfl, h⟩
theorem bn2_e {o : Option (α × β)} {k : α → β → Option η} {x : η} (h : bn2 o k = some x) : ∃ a b, o = some (a, b) ∧ k a b = some x := by
  cases o with
  | none => cases h
  | some a => exact ⟨a.1, a.2, rfl, h⟩
theorem bn3_e {o : Option (α × β × γ)} {k : α → β → γ → Option η} {x : η} (h : bn3 o k = some x) : ∃ a b c, o = some (a, b, c) ∧ k a b c = some x := by
  cases o with
  | none => cases h
  | some a => exact ⟨a.1, a.2.1, a.2.2, rfl, h⟩
theorem bn4_e {o : Option (α × β × γ × δ)} {k : α → β → γ → δ → Option η} {x : η} (h : bn4 o k = some x) : ∃ a b c d, o = some (a, b, c, d) ∧ k a b c d = some x := by
  cases o with
  | none => cases h
  | some a => exact ⟨a.1, a.2.1, a.2.2.1, a.2.2.2, rfl, h⟩
theorem bn5_e {o : Option (α × β × γ × δ × ε)} {k : α → β → γ → δ → ε → Option η} {x : η} (h : bn5 o k = some x) : ∃ a b c d e, o = some (a, b, c, d, e) ∧ k a b c d e = some x := by
  cases o with
  | none => cases h
  | some a => exact ⟨a.1, a.2.1, a.2.2.1, a.2.2.2.1, a.2.2.2.2, rfl, h⟩
theorem bn6_e {o : Option (α × β × γ × δ × ε × ζ)} {k : α → β → γ → δ → ε → ζ → Option η} {x : η} (h : bn6 o k = some x) : ∃ a b c d e f, o = some (a, b, c, d, e, f) ∧ k a b c d e f = some x := by
  cases o with
  | none => cases h
  | some a => exact ⟨a.1, a.2.1, a.2.2.1, a.2.2.2.1, a.2.2.2.2.1, a.2.2.2.2.2, rfl, h⟩
theorem if_t {c : Prop} {hd : Decidable c} {a b : Option α} {x : α} (hc : c) (h : (@ite _ c hd a b) = some x) : a = some x := by rw [if_pos hc] at h; exact h
theorem if_f {c : Prop} {hd : Decidable c} {a b : Option α} {x : α} (hc : ¬ c) (h : (@ite _ c hd a b) = some x) : b = some x := by rw [if_neg hc] at h; exact h
theorem if_n {c : Prop} {hd : Decidable c} {a : Option α} {x : α} (h : (@ite _ c hd a none) = some x) : c ∧ a = some x := by
  by_cases hc : c
  · rw [if_pos hc] at h; exact ⟨hc, h⟩
  · rw [if_neg hc] at h; cases h
theorem sm1 {a a' : α} (h : some a = some a') : a = a' := by injection h
theorem sm2 {a a' : α} {b b' : β} (h : some (a, b) = some (a', b')) : a = a' ∧ b = b' := by injection h with h; injection h with h1 h2; exact ⟨h1, h2⟩
theorem sm3 {a a' : α} {b b' : β} {c c' : γ} (h : some (a, b, c) = some (a', b', c')) : a = a' ∧ b = b' ∧ c = c' := by obtain ⟨h1, h2⟩ := sm2 h; injection h2 with h2 h3; exact ⟨h1, h2, h3⟩
theorem sm4 {a a' : α} {b b' : β} {c c' : γ} {d d' : δ} (h : some (a, b, c, d) = some (a', b', c', d')) : a = a' ∧ b = b' ∧ c = c' ∧ d = d' := by obtain ⟨h1, h2, h3⟩ := sm3 h; injection h3 with h3 h4; exact ⟨h1, h2, h3, h4⟩
theorem sm5 {a a' : α} {b b' : β} {c c' : γ} {d d' : δ} {e e' : ε} (h : some (a, b, c, d, e) = some (a', b', c', d', e')) : a = a' ∧ b = b' ∧ c = c' ∧ d = d' ∧ e = e' := by obtain ⟨h1, h2, h3, h4⟩ := sm4 h; injection h4 with h4 h5; exact ⟨h1, h2, h3, h4, h5⟩
theorem sm6 {a a' : α} {b b' : β} {c c' : γ} {d d' : δ} {e e' : ε} {f f' : ζ} (h : some (a, b, c, d, e, f) = some (a', b', c', d', e', f')) : a = a' ∧ b = b' ∧ c = c' ∧ d = d' ∧ e = e' ∧ f = f' := by obtain ⟨h1, h2, h3, h4, h5⟩ := sm5 h; injection h5 with h5 h6; exact ⟨h1, h2, h3, h4, h5, h6⟩
end BN
/-! what is given of the statics and of nest mates -/
abbrev ZT : Type := (Nat → Prop) → State → Heap → Prop
def z_ok (Z : ZT) : Prop := (∀ (A : Nat → Prop) (u U : State) (H : Heap), u.WarmedH U.vm → Z A u H → Z A U H) ∧ (∀ (A : Nat → Prop) (U : State) (H H1 : Heap), (∀ a : Nat, a < H.size → ¬ A a → H1[a]? = H[a]?) → Z A U H → Z A U H1) ∧ (∀ (A B : Nat → Prop) (U : State) (H : Heap), (∀ q, B q → A q) → Z A U H → Z B U H) ∧ (∀ (A : Nat → Prop) (u U : State) (H : Heap), u.vm = U.vm → Z A u H → Z A U H)
def z_0 : ZT := fun _ _ _ => True
theorem z_0_ok : z_ok z_0 := ⟨fun _ _ _ _ _ _ => trivial, fun _ _ _ _ _ _ => trivial, fun _ _ _ _ _ _ => trivial, fun _ _ _ _ _ _ => trivial⟩
def z_tX : Nat → Int32 := fun j => match j with
  | 0 => 1
  | 1 => 1
  | 2 => 0
  | 3 => -1
  | 4 => -1
  | 5 => -1
  | 6 => 0
  | _ => 1
def z_tY : Nat → Int32 := fun j => match j with
  | 0 => 0
  | 1 => 1
  | 2 => 1
  | 3 => 1
  | 4 => 0
  | 5 => -1
  | 6 => -1
  | _ => -1
def z_nF : List (String × Nat × String × String × String) := [(RX0, 64, "ArcRings", "TURN_X", "[I"), (RX0, 67, "ArcRings", "TURN_Y", "[I")]
def z_nM : List (String × Nat × MethodName) := [(RX6, 9, yX2_init), (RX2, 17, yX0_init), (RX6, 18, yX0_init), (RX1, 84, yX6_keyOf), (RX4, 13, yX6_keyX), (RX4, 23, yX6_keyY), (RX4, 29, yX6_keyRadius), (RX5, 91, yX6_keyX), (RX5, 94, yX6_keyY), (RX5, 97, yX6_keyRadius), (RX3, 109, yX6_keyX), (RX3, 112, yX6_keyY), (RX3, 115, yX6_keyRadius)]
def z_X (tx ty : Nat) : ZT := fun A U H => va_Z "ArcRings" "TURN_X" "[I" (.ref tx) A U H ∧ va_Z "ArcRings" "TURN_Y" "[I" (.ref ty) A U H ∧ va_T .int tx 8 (fun j => .int (z_tX j)) A U H ∧ va_T .int ty 8 (fun j => .int (z_tY j)) A U H ∧ (∀ q ∈ z_nF, va_Nw (.fieldLinkNest q.1 q.2.1 q.2.2.1 q.2.2.2.1 q.2.2.2.2 "ArcRings") U) ∧ (∀ q ∈ z_nM, va_Nw (.methodLinkNest q.1 q.2.1 q.2.2 "ArcRings") U)
theorem z_X_ok (tx ty : Nat) : z_ok (z_X tx ty) := by
  refine ⟨fun A u U H hW h => ?_, fun A U H H1 hq h => ?_, fun A B U H hq h => ?_, fun A u U H hv h => ?_⟩
  · exact ⟨h.1.moved hW.alike, h.2.1.moved hW.alike, h.2.2.1.moved hW.alike, h.2.2.2.1.moved hW.alike, fun q hq => va_Nw.warmF hW (h.2.2.2.2.1 q hq), fun q hq => va_Nw.warmM hW (h.2.2.2.2.2 q hq)⟩
  · exact ⟨h.1.kept hq, h.2.1.kept hq, h.2.2.1.kept hq, h.2.2.2.1.kept hq, h.2.2.2.2⟩
  · exact ⟨h.1.narrow hq, h.2.1.narrow hq, h.2.2.1.narrow hq, h.2.2.2.1.narrow hq, h.2.2.2.2⟩
  · have ha : u.vm.Alike U.vm := by rw [hv]; exact Vm.Alike.refl U.vm
    exact ⟨h.1.moved ha, h.2.1.moved ha, h.2.2.1.moved ha, h.2.2.2.1.moved ha, fun q hq => va_Nw.same rfl hv (h.2.2.2.2.1 q hq), fun q hq => va_Nw.same rfl hv (h.2.2.2.2.2 q hq)⟩
/-! worlds and contracts -/
def Wd (D : va_G) (A : Nat → Prop) (H0 H : Heap) (locs : List Loc) (ws : va_W) : Prop := va_P D vwCl ws H ∧ va_D A ws ∧ va_S A H0 H locs
def k_pc (D : va_G) (cA : ClassId) (Z : ZT) (sz : Nat) (as : List Value) (ws : va_W) : Array Value → State → Prop := va_Pc as (fun U => U.heap.size = sz ∧ va_P D vwCl ws U.heap ∧ va_K D vwCl [(cA, .int)] U ∧ va_D (fun _ => True) ws ∧ Z (va_A ws sz) U U.heap)
def k_at (D : va_G) (cA : ClassId) (A : Nat → Prop) (ws : va_W) (t : State) : Prop := va_P D vwCl ws t.heap ∧ va_K D vwCl [(cA, .int)] t ∧ va_D A ws
def k_qi (D : va_G) (cA : ClassId) (A : Nat → Prop) (r : Int32) (ws : va_W) : Array Value → State → Outcome → State → Prop := va_Qi (fun (v : Int32) (_ : Unit) => v = r) (fun _ t => k_at D cA A ws t) A
def k_ql (D : va_G) (cA : ClassId) (A : Nat → Prop) (r : Int64) (ws : va_W) : Array Value → State → Outcome → State → Prop := va_Ql (fun (v : Int64) (_ : Unit) => v = r) (fun _ t => k_at D cA A ws t) A
def k_qv (D : va_G) (cA : ClassId) (A : Nat → Prop) (ws : va_W) : Array Value → State → Outcome → State → Prop := va_Qv (fun (_ : Unit) => True) (fun _ t => k_at D cA A ws t) A
def Mi (l : Launch) (y : MethodName) (wd : List Cond) (rm : Room) (D : va_G) (cA : ClassId) (Z : ZT) (as : List Value) (ws : va_W) (r : Int32) (ws' : va_W) : Prop := ∀ sz : Nat, Met l y wd rm (k_pc D cA Z sz as ws) (k_qi D cA (va_A ws sz) r ws') 0 0 (va_A ws sz)
def Ml (l : Launch) (y : MethodName) (wd : List Cond) (rm : Room) (D : va_G) (cA : ClassId) (Z : ZT) (as : List Value) (ws : va_W) (r : Int64) (ws' : va_W) : Prop := ∀ sz : Nat, Met l y wd rm (k_pc D cA Z sz as ws) (k_ql D cA (va_A ws sz) r ws') 0 0 (va_A ws sz)
def Mv (l : Launch) (y : MethodName) (wd : List Cond) (rm : Room) (D : va_G) (cA : ClassId) (Z : ZT) (as : List Value) (ws : va_W) (ws' : va_W) : Prop := ∀ sz : Nat, Met l y wd rm (k_pc D cA Z sz as ws) (k_qv D cA (va_A ws sz) ws') 0 0 (va_A ws sz)
theorem k_nz {v : Int32} (h : v = 0 ∨ v = 1) : narrow .boolean (.int v) = .int v := by
  rcases h with rfl | rfl <;> rfl
theorem met_ofWF {l : Launch} {y : MethodName} {ws ws' : List Cond} {rm : Room} {Pc : Array Value → State → Prop} {Qc : Array Value → State → Outcome → State → Prop} {mc ms : Nat} {free : Addr → Prop} {cc : ByteArray} {maxL : Nat} {ret : Option FieldType}
    (hy : plainFor y = true) (hw : ws = Cond.code y cc maxL ret :: ws')
    (body : ∀ p e s m args below meth c s₁, BodyLoose p l y (headSpec ws rm) cc maxL ret e s m args below meth c s₁ → c.maxLocals = maxL → Pc args s →
      W p l e (headSpec ws rm).room s m args below meth c s.heap [] 0 0 (MQ below Qc args s mc ms free) (entryFrame m args maxL)) : Met l y ws rm Pc Qc mc ms free := by
  refine MetFree.of_bodySF (code := cc) (maxLocals := maxL) (ret := ret) hy ?_ ?_
  · intro args s m h hn
    obtain ⟨meth, c, h1, h2, h3, h4, h5, h6, -, -⟩ := Cond.code_spec hn (atoms_spec (ws := ws) h _ (by rw [hw]; exact List.mem_cons_self))
    exact ⟨meth, c, h1, h2, h3, h4, h5, h6⟩
  · intro p e s m args below meth c s₁ B hml hP _
    have hh0 : s₁.heap = s.heap := by rw [B.state]; rfl
    obtain ⟨t, a1, o, b1, b2, b3⟩ := body p e s m args below meth c s₁ B hml hP s₁ hh0 (Stand.of_body B)
    exact ⟨t, o, a1, b1, b2, ⟨b3.1, b3.2⟩⟩
theorem Mi.of {l : Launch} {y : MethodName} {wd wd' : List Cond} {rm : Room} {D : va_G} {cA : ClassId} {Z : ZT} {as : List Value} {ws ws' : va_W} {r : Int32} {cc : ByteArray} {maxL : Nat} {ret : Option FieldType}
    (hy : plainFor y = true) (hwd : wd = Cond.code y cc maxL ret :: wd') (hlen : (lg_sl as).length ≤ maxL) (hrt : ret = some .int ∨ ret = some .boolean)
    (body : ∀ (p : Program) (e : Env) (s : State) (m : MethodId) (below : List Frame) (meth : Method) (c : Code) (A : Nat → Prop) (Q : State → Prop),
      p.tables.exec = Jvm.exec → c.code = cc → c.maxLocals = maxL → s.vm.findClass y.cls = some m.cls → (∀ w ∈ wd, w.before as.toArray s = true) → va_K D vwCl [(cA, .int)] s → (∀ q : Nat, s.heap.size ≤ q → A q) → Z A s s.heap →
      (∀ (H : Heap) (locs : List Loc) (ls : Array Slot) (pc : Nat) (v : Int32), Wd D A s.heap H locs ws' → v = r → (ret = some .int ∨ v = 0 ∨ v = 1) → decode cc pc = .ok (.ireturn, 1) → W p l e rm s m as.toArray below meth c H locs 0 0 Q (F0 m pc ls [.int v])) →
      ∀ (ls : Array Slot), lv_has ls maxL (lv_args 0 as) → Wd D A s.heap s.heap [] ws → W p l e rm s m as.toArray below meth c s.heap [] 0 0 Q (F0 m 0 ls [])) : Mi l y wd rm D cA Z as ws r ws' := by
  intro sz
  refine met_ofWF (cc := cc) (maxL := maxL) (ret := ret) hy hwd ?_
  intro p e s m args below meth c s₁ B hml hv
  obtain ⟨rfl, hsz, hP, hK, hD0, hZ⟩ := hv
  have hlocks := B.notSynchronized
  have hr := B.returns
  subst hsz
  rw [lg_entry_eq]
  refine body p e s m below meth c (va_A ws s.heap.size) _ B.exec B.bytes hml (findClass_of_methodNamed B.named) (atoms_spec (ws := wd) B.pre) hK (fun q h => Or.inr h) hZ ?_ _ (lv_entry as hlen) ⟨hP, hD0.self, va_S.rf⟩
  intro H locs ls pc v hw hvr hn hdg
  rcases hrt with h | h
  · exact W.iret (v := v) B.exec B.bytes (hr.trans h) (fun t ht hW => ⟨⟨v, (), rfl, hvr, by rw [ht]; exact hw.1, va_K.moved hW.alike hK, hw.2.1⟩, hw.2.2.F ht⟩) hw.2.2.2.2 hdg
  · refine W.zret (v := v) B.exec B.bytes (hr.trans h) (k_nz ?_) (fun t ht hW => ⟨⟨v, (), rfl, hvr, by rw [ht]; exact hw.1, va_K.moved hW.alike hK, hw.2.1⟩, hw.2.2.F ht⟩) hw.2.2.2.2 hdg
    rcases hn with q | q
    · rw [h] at q; cases q
    · exact q
theorem Ml.of {l : Launch} {y : MethodName} {wd wd' : List Cond} {rm : Room} {D : va_G} {cA : ClassId} {Z : ZT} {as : List Value} {ws ws' : va_W} {r : Int64} {cc : ByteArray} {maxL : Nat}
    (hy : plainName y.cls = true) (hwd : wd = Cond.code y cc maxL (some .long) :: wd') (hlen : (lg_sl as).length ≤ maxL)
    (body : ∀ (p : Program) (e : Env) (s : State) (m : MethodId) (below : List Frame) (meth : Method) (c : Code) (A : Nat → Prop) (Q : State → Prop),
      p.tables.exec = Jvm.exec → c.code = cc → c.maxLocals = maxL → s.vm.findClass y.cls = some m.cls → (∀ w ∈ wd, w.before as.toArray s = true) → va_K D vwCl [(cA, .int)] s → (∀ q : Nat, s.heap.size ≤ q → A q) → Z A s s.heap →
      (∀ (H : Heap) (locs : List Loc) (ls : Array Slot) (pc : Nat) (v : Int64), Wd D A s.heap H locs ws' → v = r → decode cc pc = .ok (.lreturn, 1) → W p l e rm s m as.toArray below meth c H locs 0 0 Q (F0 m pc ls [.long v])) →
      ∀ (ls : Array Slot), lv_has ls maxL (lv_args 0 as) → Wd D A s.heap s.heap [] ws → W p l e rm s m as.toArray below meth c s.heap [] 0 0 Q (F0 m 0 ls [])) : Ml l y wd rm D cA Z as ws r ws' := by
  intro sz
  refine Met.ofW (cc := cc) (maxL := maxL) (ret := some .long) hy hwd ?_
  intro p e s m args below meth c s₁ B hml hv
  obtain ⟨rfl, hsz, hP, hK, hD0, hZ⟩ := hv
  have hlocks := B.notSynchronized
  have hr := B.returns
  subst hsz
  rw [lg_entry_eq]
  refine body p e s m below meth c (va_A ws s.heap.size) _ B.exec B.bytes hml (findClass_of_methodNamed B.named) (atoms_spec (ws := wd) B.pre) hK (fun q h => Or.inr h) hZ ?_ _ (lv_entry as hlen) ⟨hP, hD0.self, va_S.rf⟩
  intro H locs ls pc v hw hvr hdg
  exact W.lret (v := v) B.exec B.bytes hr (fun t ht hW => ⟨⟨v, (), rfl, hvr, by rw [ht]; exact hw.1, va_K.moved hW.alike hK, hw.2.1⟩, hw.2.2.F ht⟩) hw.2.2.2.2 hdg
theorem Mv.of {l : Launch} {y : MethodName} {wd wd' : List Cond} {rm : Room} {D : va_G} {cA : ClassId} {Z : ZT} {as : List Value} {ws ws' : va_W} {cc : ByteArray} {maxL : Nat}
    (hy : plainName y.cls = true) (hwd : wd = Cond.code y cc maxL none :: wd') (hlen : (lg_sl as).length ≤ maxL)
    (body : ∀ (p : Program) (e : Env) (s : State) (m : MethodId) (below : List Frame) (meth : Method) (c : Code) (A : Nat → Prop) (Q : State → Prop),
      p.tables.exec = Jvm.exec → c.code = cc → c.maxLocals = maxL → s.vm.findClass y.cls = some m.cls → (∀ w ∈ wd, w.before as.toArray s = true) → va_K D vwCl [(cA, .int)] s → (∀ q : Nat, s.heap.size ≤ q → A q) → Z A s s.heap →
      (∀ (H : Heap) (locs : List Loc) (ls : Array Slot) (pc : Nat), Wd D A s.heap H locs ws' → decode cc pc = .ok (.return_, 1) → W p l e rm s m as.toArray below meth c H locs 0 0 Q (F0 m pc ls [])) →
      ∀ (ls : Array Slot), lv_has ls maxL (lv_args 0 as) → Wd D A s.heap s.heap [] ws → W p l e rm s m as.toArray below meth c s.heap [] 0 0 Q (F0 m 0 ls [])) : Mv l y wd rm D cA Z as ws ws' := by
  intro sz
  refine Met.ofW (cc := cc) (maxL := maxL) (ret := none) hy hwd ?_
  intro p e s m args below meth c s₁ B hml hv
  obtain ⟨rfl, hsz, hP, hK, hD0, hZ⟩ := hv
  have hlocks := B.notSynchronized
  have hr := B.returns
  subst hsz
  rw [lg_entry_eq]
  refine body p e s m below meth c (va_A ws s.heap.size) _ B.exec B.bytes hml (findClass_of_methodNamed B.named) (atoms_spec (ws := wd) B.pre) hK (fun q h => Or.inr h) hZ ?_ _ (lv_entry as hlen) ⟨hP, hD0.self, va_S.rf⟩
  intro H locs ls pc hw hdg
  exact W.vret B.exec B.bytes hr (fun t ht hW => ⟨⟨(), rfl, trivial, by rw [ht]; exact hw.1, va_K.moved hW.alike hK, hw.2.1⟩, hw.2.2.F ht⟩) hw.2.2.2.2 hdg
/-! the frame: which cells the called method has, and how the world is put together behind it -/
def Fr (ws wc wc' ws' : va_W) (isC isR ps : List Nat) : Prop := isC.map (fun i => ws[i]?) = wc.map some ∧ va_nd isC = true ∧ isR.map (fun i => ws[i]?) = (isR.filterMap (fun i => ws[i]?)).map some ∧ va_nd isR = true ∧ (∀ i ∈ isR, i ∉ isC) ∧ va_nd ps = true ∧ ps.map (fun i => ((isR.filterMap (fun i => ws[i]?)) ++ wc')[i]?) = ws'.map some
theorem fm_of {α β : Type} {f : α → Option β} : ∀ (l : List α) (l' : List β), l.map f = l'.map some → l.filterMap f = l'
  | [], [], _ => rfl
  | [], _ :: _, h => by cases h
  | _ :: _, [], h => by cases h
  | a :: l, b :: l', h => by
    simp only [List.map_cons, List.cons.injEq] at h
    simp only [List.filterMap_cons, h.1, fm_of l l' h.2]
theorem Fr.pc {ws wc wc' ws' : va_W} {isC isR ps : List Nat} {D : va_G} {A : Nat → Prop} {s U : State} {H : Heap} {locs : List Loc} {cA : ClassId} {Z Z1 : ZT} {as : List Value} (fr : Fr ws wc wc' ws' isC isR ps) (hw : Wd D A s.heap H locs ws) (hK : va_K D vwCl [(cA, .int)] s) (hA : ∀ q : Nat, s.heap.size ≤ q → A q) (hZo : z_ok Z) (hZ : Z A s s.heap) (hZ1 : ∀ B U H, Z B U H → Z1 B U H) (hU : U.heap = H) (hW : s.WarmedH U.vm) : k_pc D cA Z1 H.size as wc as.toArray U := by
  obtain ⟨hC, hn, -⟩ := fr
  have hF := va_free hw.2.1 hw.2.2 hA isC hC
  refine ⟨rfl, by rw [hU], by rw [hU]; exact hw.1.sub isC (fm_of _ _ hC), va_K.moved hW.alike hK, (hw.2.1.sub isC hn hC).weaken (fun _ _ _ _ => trivial), ?_⟩
  rw [hU]
  exact hZ1 _ _ _ (hZo.2.2.1 A _ U H hF (hZo.2.1 A U s.heap H (fun a h1 h2 => hw.2.2.2.1 a h1 h2) (hZo.1 A s U s.heap hW hZ)))
theorem k_pc_blind {D : va_G} {cA : ClassId} {Z : ZT} (hZo : z_ok Z) {sz : Nat} {as : List Value} {ws : va_W} : FrameBlind (k_pc D cA Z sz as ws) := by
  intro a U g mk h
  obtain ⟨h1, h2, h3, h4, h5, h6⟩ := h
  exact ⟨h1, h2, h3, va_K.moved (u := U) (U := U.calling g mk a) (Vm.Alike.refl U.vm) h4, h5, hZo.2.2.2 _ U (U.calling g mk a) _ rfl h6⟩
theorem Fr.back {ws wc wc' ws' : va_W} {isC isR ps : List Nat} {D : va_G} {A : Nat → Prop} {H0 H H1 : Heap} {locs locs1 : List Loc} {cA : ClassId} {t : State} (fr : Fr ws wc wc' ws' isC isR ps) (hw : Wd D A H0 H locs ws) (hA : ∀ q : Nat, H0.size ≤ q → A q) (ht : t.heap = H1) (hB : k_at D cA (va_A wc H.size) wc' t) (hk : ∀ q : Nat, q < H.size → ¬ va_A wc H.size q → H1[q]? = H[q]?) (hS : va_S A H0 H1 locs1) : Wd D A H0 H1 locs1 ws' := by
  obtain ⟨hC, hn, hR, hnR, hdis, hnp, hp⟩ := fr
  obtain ⟨hP1, -, hD1⟩ := hB
  rw [ht] at hP1
  obtain ⟨hP, hD⟩ := va_join hw.1 hw.2.1 isC isR hC hR hnR hdis hk (va_free hw.2.1 hw.2.2 hA isC hC) hP1 hD1
  exact ⟨hP.sub ps (fm_of _ _ hp), hD.sub ps hnp hp, hS⟩
section CALL
variable {p : Program} {l : Launch} {e : Env} {R : Room} {s : State} {m : MethodId} {args : Array Value} {below : List Frame} {meth : Method} {c : Code} {H : Heap} {locs : List Loc} {cells slots : Nat} {Q : State → Prop}
variable {pc : Nat} {ls : Array Slot} {rest st : List Value} {A : Nat → Prop} {D : va_G} {cA : ClassId} {Z Z1 : ZT} {ws wc wc' ws' : va_W} {isC isR ps : List Nat}
variable {y : MethodName} {bytes cc : ByteArray} {maxL nL n index : Nat} {ret : Option FieldType} {wd : List Cond} {rm : Room} {Ts : List Cond} {own C : String} {b : Addr} {As : List Value}
/-- a call of an object's method -/
theorem run_v {Qc : Array Value → State → Outcome → State → Prop} (S : CallFix p m c cc nL s args Ts own) (hM : Met l y wd rm (k_pc D cA Z H.size (.ref b :: As) wc) Qc 0 0 (va_A wc H.size)) (cw : CallW R s args own C index y bytes maxL ret wd rm 0 0 n) (fr : Fr ws wc wc' ws' isC isR ps) (hw : Wd D A s.heap H locs ws) (hK : va_K D vwCl [(cA, .int)] s) (hA : ∀ q : Nat, s.heap.size ≤ q → A q) (hZo : z_ok Z) (hZ : Z A s s.heap) {ci : Nat} {q : vw_C} {fs : List Value} (hc : vwCl[ci]? = some q) (he : wc[0]? = some (b, .inr (ci, fs))) (hq : q.1 = C)
    (hn : As.length = n) (hsize : ls.size = nL) (hst : st = As.reverse ++ .ref b :: rest) (hW : (rest.map fun v => v.category).sum ≤ 8) (hdg : decode cc pc = .ok (.invokevirtual index, 3)) (hf : cells ≤ R.cells ∧ slots ≤ R.slots) :
    va_Run p l e R s m args below meth c H locs cells slots 0 0 (F0 m pc ls st) rest (Qc (Value.ref b :: As).toArray) (va_A wc H.size) := by
  subst hst
  refine va_runV (As := As) (rest := rest) S hM cw ⟨k_pc_blind hZo, ?_, fun U hU hWm => fr.pc (as := .ref b :: As) hw hK hA hZo hZ (fun _ _ _ h => h) hU hWm⟩ rfl hn hsize rfl (lv_room hW) hdg hf
  have hPc := hw.1.sub isC (fm_of _ _ fr.1)
  have h := va_recv hK hPc (ci := ci) (q0 := 0) hc he
  rw [hq] at h
  exact h
theorem run_s {Qc : Array Value → State → Outcome → State → Prop} (S : CallFix p m c cc nL s args Ts own) (hM : Met l y wd rm (k_pc D cA z_0 H.size As wc) Qc 0 0 (va_A wc H.size)) (cw : CallB R s args own index y bytes maxL ret wd rm 0 0 n ∧ (Cond.static y).before args s = true) (fr : Fr ws wc wc' ws' isC isR ps) (hw : Wd D A s.heap H locs ws) (hK : va_K D vwCl [(cA, .int)] s) (hA : ∀ q : Nat, s.heap.size ≤ q → A q)
    (hn : As.length = n) (hsize : ls.size = nL) (hst : st = As.reverse ++ rest) (hW : (rest.map fun v => v.category).sum ≤ 8) (hdg : decode cc pc = .ok (.invokestatic index, 3)) (hf : cells ≤ R.cells ∧ slots ≤ R.slots) :
    va_Run p l e R s m args below meth c H locs cells slots 0 0 (F0 m pc ls st) rest (Qc As.toArray) (va_A wc H.size) := by
  subst hst
  exact va_runS (As := As) (rest := rest) S hM cw ⟨k_pc_blind z_0_ok, fun U hU hWm => fr.pc (as := As) hw hK hA z_0_ok trivial (fun _ _ _ h => h) hU hWm⟩ rfl hn hsize rfl (lv_room hW) hdg hf
theorem run_n {Qc : Array Value → State → Outcome → State → Prop} {host : String} (S : CallFix p m c cc nL s args Ts own) (hM : Met l y wd rm (k_pc D cA z_0 H.size As wc) Qc 0 0 (va_A wc H.size)) (cw : va_CN R s args own index y host bytes maxL ret wd rm 0 0 n ∧ (Cond.static y).before args s = true ∧ True) (fr : Fr ws wc wc' ws' isC isR ps) (hw : Wd D A s.heap H locs ws) (hK : va_K D vwCl [(cA, .int)] s) (hA : ∀ q : Nat, s.heap.size ≤ q → A q)
    (hn : As.length = n) (hsize : ls.size = nL) (hst : st = As.reverse ++ rest) (hW : (rest.map fun v => v.category).sum ≤ 8) (hdg : decode cc pc = .ok (.invokestatic index, 3)) (hf : cells ≤ R.cells ∧ slots ≤ R.slots) :
    va_Run p l e R s m args below meth c H locs cells slots 0 0 (F0 m pc ls st) rest (Qc As.toArray) (va_A wc H.size) := by
  subst hst
  exact va_runSN (As := As) (rest := rest) S hM cw ⟨k_pc_blind z_0_ok, fun U hU hWm => fr.pc (as := As) hw hK hA z_0_ok trivial (fun _ _ _ h => h) hU hWm⟩ rfl hn hsize rfl (lv_room hW) hdg hf
theorem go_i {r : Int32} {a : Array Value} (hr : va_Run p l e R s m args below meth c H locs cells slots 0 0 (F0 m pc ls st) rest (k_qi D cA (va_A wc H.size) r wc' a) (va_A wc H.size)) (fr : Fr ws wc wc' ws' isC isR ps) (hw : Wd D A s.heap H locs ws) (hA : ∀ q : Nat, s.heap.size ≤ q → A q)
    (kk : ∀ (H1 : Heap) (locs1 : List Loc), Wd D A s.heap H1 locs1 ws' → W p l e R s m args below meth c H1 locs1 cells slots Q (F0 m (pc + 3) ls (.int r :: rest))) : W p l e R s m args below meth c H locs cells slots Q (F0 m pc ls st) := by
  have hF := va_free hw.2.1 hw.2.2 hA isC fr.1
  refine va_calli hr hw.2.2 (fun q _ h => hF q h) hF (fun v u t H1 locs1 ht hvm hp hB hz hk hS => ?_)
  subst hp
  exact kk H1 locs1 (fr.back hw hA ht hB hk hS)
theorem go_l {r : Int64} {a : Array Value} (hr : va_Run p l e R s m args below meth c H locs cells slots 0 0 (F0 m pc ls st) rest (k_ql D cA (va_A wc H.size) r wc' a) (va_A wc H.size)) (fr : Fr ws wc wc' ws' isC isR ps) (hw : Wd D A s.heap H locs ws) (hA : ∀ q : Nat, s.heap.size ≤ q → A q)
    (kk : ∀ (H1 : Heap) (locs1 : List Loc), Wd D A s.heap H1 locs1 ws' → W p l e R s m args below meth c H1 locs1 cells slots Q (F0 m (pc + 3) ls (.long r :: rest))) : W p l e R s m args below meth c H locs cells slots Q (F0 m pc ls st) := by
  have hF := va_free hw.2.1 hw.2.2 hA isC fr.1
  refine va_calll hr hw.2.2 (fun q _ h => hF q h) hF (fun v u t H1 locs1 ht hvm hp hB hz hk hS => ?_)
  subst hp
  exact kk H1 locs1 (fr.back hw hA ht hB hk hS)
theorem go_v {a : Array Value} (hr : va_Run p l e R s m args below meth c H locs cells slots 0 0 (F0 m pc ls st) rest (k_qv D cA (va_A wc H.size) wc' a) (va_A wc H.size)) (fr : Fr ws wc wc' ws' isC isR ps) (hw : Wd D A s.heap H locs ws) (hA : ∀ q : Nat, s.heap.size ≤ q → A q)
    (kk : ∀ (H1 : Heap) (locs1 : List Loc), Wd D A s.heap H1 locs1 ws' → W p l e R s m args below meth c H1 locs1 cells slots Q (F0 m (pc + 3) ls rest)) : W p l e R s m args below meth c H locs cells slots Q (F0 m pc ls st) := by
  have hF := va_free hw.2.1 hw.2.2 hA isC fr.1
  refine va_callv hr hw.2.2 (fun q _ h => hF q h) hF (fun u t H1 locs1 ht hvm hp hB hz hk hS => ?_)
  exact kk H1 locs1 (fr.back hw hA ht hB hk hS)
/-- fields and rows -/
theorem w_get (hx : p.tables.exec = Jvm.exec) (hb : c.code = cc) {ref : String} {T : u_T} {N ci : Nat} {a : Addr} {H0 : Heap} (hts : ∀ w ∈ Ts, w.before args s = true) (hin : ∀ w ∈ u_ws C T N, w ∈ Ts) (hown : s.vm.findClass own = some m.cls) (hK : va_K D vwCl [(cA, .int)] s) (hw : Wd D A H0 H locs ws) (q0 : Nat) {fs : List Value} (he : ws[q0]? = some (a, .inr (ci, fs))) (hc : vwCl[ci]? = some (C, T, N)) (k : Nat) (hk : k < N) (hlink : (Cond.fieldLink own index ref (T k).2.1 (T k).2.2.1).before args s = true) (hsame : (T k).1 = ref) {v : Value} (hv : fs[k]? = some v) (hdg : decode cc pc = .ok (.getfield index, 3))
    (kk : W p l e R s m args below meth c H locs cells slots Q (F0 m (pc + 3) ls (v :: rest))) : W p l e R s m args below meth c H locs cells slots Q (F0 m pc ls (.ref a :: rest)) :=
  va_get hx hb hts hin hown hK hw.1 q0 he hc k hk hlink (fun x h => by rw [← hsame]; exact h) hv hdg kk
theorem w_put (hx : p.tables.exec = Jvm.exec) (hb : c.code = cc) {ref : String} {T : u_T} {N ci : Nat} {a : Addr} {H0 : Heap} (hts : ∀ w ∈ Ts, w.before args s = true) (hin : ∀ w ∈ u_ws C T N, w ∈ Ts) (ty0 : Nat → FieldType) (hty : ∀ k, k < N → parseFieldDescriptor (T k).2.2.1 = some (ty0 k)) (hnm : ∀ a, a < N → ∀ b, b < N → a ≠ b → (T a).2.1 ≠ (T b).2.1) (hown : s.vm.findClass own = some m.cls) (hK : va_K D vwCl [(cA, .int)] s) (hw : Wd D A H0 H locs ws) (q0 : Nat) {fs : List Value} (he : ws[q0]? = some (a, .inr (ci, fs))) (hc : vwCl[ci]? = some (C, T, N)) (k : Nat) (hk : k < N) (hlink : (Cond.fieldLink own index ref (T k).2.1 (T k).2.2.1).before args s = true) (hsame : (T k).1 = ref) (hfin : (T k).2.2.2 = false) {v : Value} (hn : narrow (ty0 k) v = v) (hfit : fits (ty0 k) v = true) (hl : k < fs.length) (hws : ws.set q0 (a, .inr (ci, fs.set k v)) = ws') (hdg : decode cc pc = .ok (.putfield index, 3))
    (kk : ∀ (H1 : Heap) (locs1 : List Loc), Wd D A H0 H1 locs1 ws' → W p l e R s m args below meth c H1 locs1 cells slots Q (F0 m (pc + 3) ls rest)) : W p l e R s m args below meth c H locs cells slots Q (F0 m pc ls (v :: .ref a :: rest)) :=
  va_put hx hb hts hin ty0 hty hnm hown hK hw.1 hw.2.1 hw.2.2 q0 he hc k hk hlink (fun x h => by rw [← hsame]; exact h) hfin (hty k hk) hn hfit hl hdg (fun H1 locs1 hP hD hS => kk H1 locs1 ⟨hws ▸ hP, hws ▸ hD, hS⟩)
theorem w_ald (hx : p.tables.exec = Jvm.exec) (hb : c.code = cc) {a : Addr} {H0 : Heap} (hK : va_K D vwCl [(cA, .int)] s) (hw : Wd D A H0 H locs ws) (q0 : Nat) {n : Nat} {f : Nat → Int32} (ha : ws[q0]? = some (a, .inl (cA, n, .inl f))) {i v : Int32} (hv : ag n f i = some v) (hdg : decode cc pc = .ok (.iaload, 1))
    (kk : W p l e R s m args below meth c H locs cells slots Q (F0 m (pc + 1) ls (.int v :: rest))) : W p l e R s m args below meth c H locs cells slots Q (F0 m pc ls (.int i :: .ref a :: rest)) := by
  obtain ⟨h1, h2⟩ := ag_e hv
  refine va_iald hx hb hK hw.1 q0 0 ha rfl h1 hdg ?_
  rw [h2]
  exact kk
theorem w_ast (hx : p.tables.exec = Jvm.exec) (hb : c.code = cc) {a : Addr} {H0 : Heap} (hK : va_K D vwCl [(cA, .int)] s) (hw : Wd D A H0 H locs ws) (q0 : Nat) {n : Nat} {f f' : Nat → Int32} (ha : ws[q0]? = some (a, .inl (cA, n, .inl f))) {i x : Int32} (hv : au n f i x = some f') (hws : ws.set q0 (a, .inl (cA, n, .inl f')) = ws') (hdg : decode cc pc = .ok (.iastore, 1))
    (kk : ∀ (H1 : Heap) (locs1 : List Loc), Wd D A H0 H1 locs1 ws' → W p l e R s m args below meth c H1 locs1 cells slots Q (F0 m (pc + 1) ls rest)) : W p l e R s m args below meth c H locs cells slots Q (F0 m pc ls (.int x :: .int i :: .ref a :: rest)) := by
  obtain ⟨h1, h2⟩ := au_e hv
  subst h2
  exact va_iast hx hb hK hw.1 hw.2.1 hw.2.2 q0 0 ha rfl h1 hdg (fun H1 locs1 hP hD hS => kk H1 locs1 ⟨hws ▸ hP, hws ▸ hD, hS⟩)
theorem w_aws (hx : p.tables.exec = Jvm.exec) (hb : c.code = cc) {a : Addr} {H0 : Heap} (hK : va_K D vwCl [(cA, .int)] s) (hw : Wd D A H0 H locs ws) (q0 : Nat) {n k : Nat} {S S1 : St} (ha : ws[q0]? = some (a, .inl (cA, n, .inl (S.2.2 k)))) {i x : Int32} (hv : aw n S k i x = some S1) (wf : St → va_W) (hws : ∀ f : Nat → Int32, ws.set q0 (a, .inl (cA, n, .inl f)) = wf (sR S k f)) (hdg : decode cc pc = .ok (.iastore, 1))
    (kk : ∀ (H1 : Heap) (locs1 : List Loc), Wd D A H0 H1 locs1 (wf S1) → W p l e R s m args below meth c H1 locs1 cells slots Q (F0 m (pc + 1) ls rest)) : W p l e R s m args below meth c H locs cells slots Q (F0 m pc ls (.int x :: .int i :: .ref a :: rest)) := by
  obtain ⟨h1, h2⟩ := aw_e hv
  subst h2
  exact va_iast hx hb hK hw.1 hw.2.1 hw.2.2 q0 0 ha rfl h1 hdg (fun H1 locs1 hP hD hS => kk H1 locs1 ⟨hws _ ▸ hP, hws _ ▸ hD, hS⟩)
/-- switches over 0 .. n - 1 -/
theorem w_out {x : Int32} {n : Nat} (hn : n < 2 ^ 31) (h : ∀ k : Nat, k < n → ¬ x = nI k) : x.toInt < 0 ∨ (n : Int) - 1 < x.toInt := by
  rcases Int.lt_or_le x.toInt 0 with q | q
  · exact Or.inl q
  · right
    have h0 : ¬ x < 0 := by
      intro z
      have := Int32.lt_iff_toInt_lt.mp z
      simp at this
      omega
    obtain ⟨j, hj, rfl⟩ := nI_of h0
    rw [nI_toInt hj]
    rcases Nat.lt_or_ge j n with z | z
    · exact absurd rfl (h j z)
    · omega
end CALL
section CALL2
variable {p : Program} {l : Launch} {e : Env} {R : Room} {s : State} {m : MethodId} {args : Array Value} {below : List Frame} {meth : Method} {c : Code} {H : Heap} {locs : List Loc} {cells slots : Nat} {Q : State → Prop}
variable {pc : Nat} {ls : Array Slot} {rest st : List Value} {A : Nat → Prop} {D : va_G} {cA : ClassId} {ws : va_W} {cc : ByteArray}
theorem w_nmi {x y : Int32} (h : x = y) (k : W p l e R s m args below meth c H locs cells slots Q (F0 m pc ls (.int y :: rest))) : W p l e R s m args below meth c H locs cells slots Q (F0 m pc ls (.int x :: rest)) := by
  subst h
  exact k
theorem w_nml {x y : Int64} (h : x = y) (k : W p l e R s m args below meth c H locs cells slots Q (F0 m pc ls (.long y :: rest))) : W p l e R s m args below meth c H locs cells slots Q (F0 m pc ls (.long x :: rest)) := by
  subst h
  exact k
theorem w_tald (hx : p.tables.exec = Jvm.exec) (hb : c.code = cc) {t N : Nat} {f : Nat → Int32} (hT : va_T .int t N (fun j => .int (f j)) A s s.heap) (hw : Wd D A s.heap H locs ws) {i v : Int32} (hv : ag N f i = some v) (hdg : decode cc pc = .ok (.iaload, 1))
    (kk : W p l e R s m args below meth c H locs cells slots Q (F0 m (pc + 1) ls (.int v :: rest))) : W p l e R s m args below meth c H locs cells slots Q (F0 m pc ls (.int i :: .ref t :: rest)) := by
  obtain ⟨h1, h2⟩ := ag_e hv
  exact va_ti hx hb hT hw.2.2 h1 (by rw [h2]) hdg kk
theorem w_look2 {x : Int32} {a b dflt : Int} (h0 : ¬ x = 0) (h1 : ¬ x = 1) : Op.lookupswitch.offset (#[(0, a), (1, b)] : Array (Int × Int)).toList dflt x.toInt = dflt := by
  have e0 : ¬ x.toInt = 0 := fun z => h0 (Int32.toInt_inj.mp z)
  have e1 : ¬ x.toInt = 1 := fun z => h1 (Int32.toInt_inj.mp z)
  simp [Op.lookupswitch.offset, e0, e1, Ne.symm e0, Ne.symm e1, eq_comm]
end CALL2
abbrev wX0 (o : Nat → Nat) (i : Nat) (cA : ClassId) (oB : St) : va_W := [(o i, .inr (0, [.int (oB.1 0), .int (oB.1 1), .int (oB.1 2), .int (oB.1 3), .int (oB.1 4), .int (oB.1 5), .int (oB.1 6), .int (oB.1 7), .ref (o (i + 1)), .ref (o (i + 2)), .ref (o (i + 3))])), (o (i + 1), .inl (cA, 14, .inl (oB.2.2 8))), (o (i + 2), .inl (cA, 14, .inl (oB.2.2 9))), (o (i + 3), .inl (cA, 14, .inl (oB.2.2 10)))]
abbrev wX2 (o : Nat → Nat) (cA : ClassId) (oP oD : St) : va_W := [(o 1, .inr (2, [.ref (o 2), .int (oP.1 1), .ref (o 3), .int (oP.1 3), .int (oP.1 4), .int (oP.1 5), .int (oP.1 6)])), (o 2, .inl (cA, 50, .inl (oP.2.2 0))), (o 3, .inr (0, [.int (oD.1 0), .int (oD.1 1), .int (oD.1 2), .int (oD.1 3), .int (oD.1 4), .int (oD.1 5), .int (oD.1 6), .int (oD.1 7), .ref (o 4), .ref (o 5), .ref (o 6)])), (o 4, .inl (cA, 14, .inl (oD.2.2 8))), (o 5, .inl (cA, 14, .inl (oD.2.2 9))), (o 6, .inl (cA, 14, .inl (oD.2.2 10)))]
abbrev wX1 (o : Nat → Nat) (cA : ClassId) (oC oB : St) : va_W := [(o 11, .inr (1, [.ref (o 7), .int (oC.1 1), .int (oC.1 2), .int (oC.1 3), .int (oC.1 4), .int (oC.1 5), .int (oC.1 6)])), (o 7, .inr (0, [.int (oB.1 0), .int (oB.1 1), .int (oB.1 2), .int (oB.1 3), .int (oB.1 4), .int (oB.1 5), .int (oB.1 6), .int (oB.1 7), .ref (o 8), .ref (o 9), .ref (o 10)])), (o 8, .inl (cA, 14, .inl (oB.2.2 8))), (o 9, .inl (cA, 14, .inl (oB.2.2 9))), (o 10, .inl (cA, 14, .inl (oB.2.2 10)))]
abbrev wX4 (o : Nat → Nat) (cA : ClassId) (oG oB : St) : va_W := [(o 12, .inr (4, [.ref (o 7), .int (oG.1 1), .int (oG.1 2), .int (oG.1 3)])), (o 7, .inr (0, [.int (oB.1 0), .int (oB.1 1), .int (oB.1 2), .int (oB.1 3), .int (oB.1 4), .int (oB.1 5), .int (oB.1 6), .int (oB.1 7), .ref (o 8), .ref (o 9), .ref (o 10)])), (o 8, .inl (cA, 14, .inl (oB.2.2 8))), (o 9, .inl (cA, 14, .inl (oB.2.2 9))), (o 10, .inl (cA, 14, .inl (oB.2.2 10)))]
abbrev wX5 (o : Nat → Nat) (cA : ClassId) (oT oB oC oG : St) : va_W := [(o 13, .inr (5, [.ref (o 7), .ref (o 11), .ref (o 12), .int (oT.1 3), .int (oT.1 4), .int (oT.1 5), .int (oT.1 6), .ref (o 14), .ref (o 15), .ref (o 16)])), (o 14, .inl (cA, 364, .inl (oT.2.2 7))), (o 15, .inl (cA, 364, .inl (oT.2.2 8))), (o 16, .inl (cA, 364, .inl (oT.2.2 9))), (o 7, .inr (0, [.int (oB.1 0), .int (oB.1 1), .int (oB.1 2), .int (oB.1 3), .int (oB.1 4), .int (oB.1 5), .int (oB.1 6), .int (oB.1 7), .ref (o 8), .ref (o 9), .ref (o 10)])), (o 8, .inl (cA, 14, .inl (oB.2.2 8))), (o 9, .inl (cA, 14, .inl (oB.2.2 9))), (o 10, .inl (cA, 14, .inl (oB.2.2 10))), (o 11, .inr (1, [.ref (o 7), .int (oC.1 1), .int (oC.1 2), .int (oC.1 3), .int (oC.1 4), .int (oC.1 5), .int (oC.1 6)])), (o 12, .inr (4, [.ref (o 7), .int (oG.1 1), .int (oG.1 2), .int (oG.1 3)]))]
abbrev wX3 (o : Nat → Nat) (cA : ClassId) (oR oT oB oC oG : St) : va_W := [(o 17, .inr (3, [.ref (o 7), .ref (o 13), .ref (o 12), .int (oR.1 3), .int (oR.1 4), .ref (o 18), .ref (o 19)])), (o 18, .inl (cA, 7, .inl (oR.2.2 5))), (o 19, .inl (cA, 7, .inl (oR.2.2 6))), (o 13, .inr (5, [.ref (o 7), .ref (o 11), .ref (o 12), .int (oT.1 3), .int (oT.1 4), .int (oT.1 5), .int (oT.1 6), .ref (o 14), .ref (o 15), .ref (o 16)])), (o 14, .inl (cA, 364, .inl (oT.2.2 7))), (o 15, .inl (cA, 364, .inl (oT.2.2 8))), (o 16, .inl (cA, 364, .inl (oT.2.2 9))), (o 7, .inr (0, [.int (oB.1 0), .int (oB.1 1), .int (oB.1 2), .int (oB.1 3), .int (oB.1 4), .int (oB.1 5), .int (oB.1 6), .int (oB.1 7), .ref (o 8), .ref (o 9), .ref (o 10)])), (o 8, .inl (cA, 14, .inl (oB.2.2 8))), (o 9, .inl (cA, 14, .inl (oB.2.2 9))), (o 10, .inl (cA, 14, .inl (oB.2.2 10))), (o 11, .inr (1, [.ref (o 7), .int (oC.1 1), .int (oC.1 2), .int (oC.1 3), .int (oC.1 4), .int (oC.1 5), .int (oC.1 6)])), (o 12, .inr (4, [.ref (o 7), .int (oG.1 1), .int (oG.1 2), .int (oG.1 3)]))]
abbrev wX6 (o : Nat → Nat) (cA : ClassId) (oX oP oD oR oT oB oC oG : St) : va_W := [(o 0, .inr (6, [.ref (o 1), .ref (o 7), .ref (o 11), .ref (o 12), .ref (o 13), .ref (o 17), .int (oX.1 6), .int (oX.1 7), .int (oX.1 8)])), (o 1, .inr (2, [.ref (o 2), .int (oP.1 1), .ref (o 3), .int (oP.1 3), .int (oP.1 4), .int (oP.1 5), .int (oP.1 6)])), (o 2, .inl (cA, 50, .inl (oP.2.2 0))), (o 3, .inr (0, [.int (oD.1 0), .int (oD.1 1), .int (oD.1 2), .int (oD.1 3), .int (oD.1 4), .int (oD.1 5), .int (oD.1 6), .int (oD.1 7), .ref (o 4), .ref (o 5), .ref (o 6)])), (o 4, .inl (cA, 14, .inl (oD.2.2 8))), (o 5, .inl (cA, 14, .inl (oD.2.2 9))), (o 6, .inl (cA, 14, .inl (oD.2.2 10))), (o 17, .inr (3, [.ref (o 7), .ref (o 13), .ref (o 12), .int (oR.1 3), .int (oR.1 4), .ref (o 18), .ref (o 19)])), (o 18, .inl (cA, 7, .inl (oR.2.2 5))), (o 19, .inl (cA, 7, .inl (oR.2.2 6))), (o 13, .inr (5, [.ref (o 7), .ref (o 11), .ref (o 12), .int (oT.1 3), .int (oT.1 4), .int (oT.1 5), .int (oT.1 6), .ref (o 14), .ref (o 15), .ref (o 16)])), (o 14, .inl (cA, 364, .inl (oT.2.2 7))), (o 15, .inl (cA, 364, .inl (oT.2.2 8))), (o 16, .inl (cA, 364, .inl (oT.2.2 9))), (o 7, .inr (0, [.int (oB.1 0), .int (oB.1 1), .int (oB.1 2), .int (oB.1 3), .int (oB.1 4), .int (oB.1 5), .int (oB.1 6), .int (oB.1 7), .ref (o 8), .ref (o 9), .ref (o 10)])), (o 8, .inl (cA, 14, .inl (oB.2.2 8))), (o 9, .inl (cA, 14, .inl (oB.2.2 9))), (o 10, .inl (cA, 14, .inl (oB.2.2 10))), (o 11, .inr (1, [.ref (o 7), .int (oC.1 1), .int (oC.1 2), .int (oC.1 3), .int (oC.1 4), .int (oC.1 5), .int (oC.1 6)])), (o 12, .inr (4, [.ref (o 7), .int (oG.1 1), .int (oG.1 2), .int (oG.1 3)]))]
abbrev wX7 (o : Nat → Nat) (cA : ClassId) (oM : St) : va_W := [(o 0, .inr (7, [.int (oM.1 0), .ref (o 1), .int (oM.1 2), .int (oM.1 3), .int (oM.1 4), .int (oM.1 5), .ref (o 2), .ref (o 3), .ref (o 4), .ref (o 5), .int (oM.1 10), .int (oM.1 11), .ref (o 6), .ref (o 7), .ref (o 8), .ref (o 9), .int (oM.1 16), .int (oM.1 17), .int (oM.1 18), .int (oM.1 19), .int (oM.1 20), .int (oM.1 21), .int (oM.1 22), .ref (o 10), .ref (o 11), .ref (o 12), .int (oM.1 26), .int (oM.1 27), .int (oM.1 28), .long (oM.2.1 29), .long (oM.2.1 30), .long (oM.2.1 31), .long (oM.2.1 32), .int (oM.1 33), .int (oM.1 34), .int (oM.1 35), .int (oM.1 36), .int (oM.1 37), .int (oM.1 38), .ref (o 13), .ref (o 14), .ref (o 15), .ref (o 16), .long (oM.2.1 43)])), (o 1, .inl (cA, 50, .inl (oM.2.2 1))), (o 2, .inl (cA, 14, .inl (oM.2.2 6))), (o 3, .inl (cA, 14, .inl (oM.2.2 7))), (o 4, .inl (cA, 14, .inl (oM.2.2 8))), (o 5, .inl (cA, 5, .inl (oM.2.2 9))), (o 6, .inl (cA, 14, .inl (oM.2.2 12))), (o 7, .inl (cA, 14, .inl (oM.2.2 13))), (o 8, .inl (cA, 14, .inl (oM.2.2 14))), (o 9, .inl (cA, 14, .inl (oM.2.2 15))), (o 10, .inl (cA, 14, .inl (oM.2.2 23))), (o 11, .inl (cA, 14, .inl (oM.2.2 24))), (o 12, .inl (cA, 14, .inl (oM.2.2 25))), (o 13, .inl (cA, 364, .inl (oM.2.2 39))), (o 14, .inl (cA, 364, .inl (oM.2.2 40))), (o 15, .inl (cA, 364, .inl (oM.2.2 41))), (o 16, .inl (cA, 364, .inl (oM.2.2 42)))]
