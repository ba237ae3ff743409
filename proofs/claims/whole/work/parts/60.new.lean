/-! new objects and new rows -/
section NEW
variable {p : Program} {l : Launch} {e : Env} {R : Room} {s : State} {m : MethodId} {args : Array Value} {below : List Frame} {meth : Method} {c : Code} {H H0 : Heap} {locs : List Loc} {cells slots : Nat} {Q : State → Prop}
variable {pc : Nat} {ls : Array Slot} {rest st : List Value} {A : Nat → Prop} {D : va_G} {cA : ClassId} {Z : ZT} {ws wc wr ws' : va_W} {isC isR : List Nat}
variable {y : MethodName} {bytes cc : ByteArray} {maxL nL n index mc ms : Nat} {wd : List Cond} {rm : Room} {Ts : List Cond} {own C : String} {b : Addr} {As : List Value}
theorem w_newa (hx : p.tables.exec = Jvm.exec) (hb : c.code = cc) (harr : (Cond.arrayClass .int).before args s = true) (hK : va_K D vwCl [(cA, .int)] s) (hw : Wd D A H0 H locs ws) (hA : ∀ q : Nat, H0.size ≤ q → A q) {n : Int32} {N : Nat} (hn : ¬ n < 0) (hN : n.toNatClampNeg = N) (hbytes : N * componentBytes .int ≤ 536870912) (hcells : cells + 1 ≤ R.cells) (hslots : slots + N ≤ R.slots) (hdg : decode cc pc = .ok (.newarray .int, 2))
    (kk : ∀ (q : Nat) (H1 : Heap), Wd D A H0 H1 locs (ws ++ [(q, .inl (cA, N, .inl (fun _ => 0)))]) → W p l e R s m args below meth c H1 locs (cells + 1) (slots + N) Q (F0 m (pc + 2) ls (.ref q :: rest))) : W p l e R s m args below meth c H locs cells slots Q (F0 m pc ls (.int n :: rest)) := by
  refine va_newa (atype := .int) (ty := .int) (a0 := (N, .inl (fun _ => 0))) hx hb harr rfl hK hw.1 hw.2.1 hw.2.2 hA (fun _ => rfl) hn hN hbytes hcells hslots hdg (fun q cA1 H1 hK1 hP hD hS => ?_)
  have e1 : cA1 = cA := by
    have h0 := (hK1.2 0 (cA, .int) rfl).2
    have h1 := (hK1.2 1 (cA1, .int) rfl).2
    exact Option.some.inj (h1.symm.trans h0)
  subst e1
  exact kk q H1 ⟨hP, hD, hS⟩
theorem w_new (hx : p.tables.exec = Jvm.exec) (hb : c.code = cc) {T : u_T} {N ci : Nat} (hts : ∀ w ∈ Ts, w.before args s = true) (hin : ∀ w ∈ u_ws C T N, w ∈ Ts) (ty : Nat → FieldType) (hty : ∀ k, k < N → parseFieldDescriptor (T k).2.2.1 = some (ty k)) (hown : s.vm.findClass own = some m.cls) (hcl : (Cond.classLink own index C).before args s = true) (hinst : (Cond.instantiable C N).before args s = true) (hini : (Cond.initialized C).before args s = true)
    (hK : va_K D vwCl [(cA, .int)] s) (hw : Wd D A H0 H locs ws) (hA : ∀ q : Nat, H0.size ≤ q → A q) (hc : vwCl[ci]? = some (C, T, N)) {fs : List Value} (hfs : ∀ j, j < N → defaultValue (ty j) = vp_V fs j) (hcells : cells + 1 ≤ R.cells) (hslots : slots + N ≤ R.slots) (hdg : decode cc pc = .ok (.new index, 3))
    (kk : ∀ (q : Nat) (H1 : Heap), Wd D A H0 H1 locs (ws ++ [(q, .inr (ci, fs))]) → W p l e R s m args below meth c H1 locs (cells + 1) (slots + N) Q (F0 m (pc + 3) ls (.ref q :: rest))) : W p l e R s m args below meth c H locs cells slots Q (F0 m pc ls rest) :=
  va_new hx hb hts hin ty hty hown hcl hinst hini hK hw.1 hw.2.1 hw.2.2 hA hc hfs hcells hslots hdg (fun q H1 hP hD hS => kk q H1 ⟨hP, hD, hS⟩)
theorem w_putF (hx : p.tables.exec = Jvm.exec) (hb : c.code = cc) {ref : String} {T : u_T} {N ci : Nat} {a : Addr} (hts : ∀ w ∈ Ts, w.before args s = true) (hin : ∀ w ∈ u_ws C T N, w ∈ Ts) (ty0 : Nat → FieldType) (hty : ∀ k, k < N → parseFieldDescriptor (T k).2.2.1 = some (ty0 k)) (hnm : ∀ a, a < N → ∀ b, b < N → a ≠ b → (T a).2.1 ≠ (T b).2.1) (hown : s.vm.findClass own = some m.cls) (hK : va_K D vwCl [(cA, .int)] s) (hw : Wd D A H0 H locs ws) (q0 : Nat) {fs : List Value} (he : ws[q0]? = some (a, .inr (ci, fs))) (hc : vwCl[ci]? = some (C, T, N)) (k : Nat) (hk : k < N) (hlink : (Cond.fieldLink own index ref (T k).2.1 (T k).2.2.1).before args s = true) (hsame : (T k).1 = ref) (hfin : (T k).2.2.2 = true) (hin2 : meth.name = "<init>") (hdecl : (T k).1 = own) {v : Value} (hn : narrow (ty0 k) v = v) (hfit : fits (ty0 k) v = true) (hl : k < fs.length) (hws : ws.set q0 (a, .inr (ci, fs.set k v)) = ws') (hdg : decode cc pc = .ok (.putfield index, 3))
    (kk : ∀ (H1 : Heap) (locs1 : List Loc), Wd D A H0 H1 locs1 ws' → W p l e R s m args below meth c H1 locs1 cells slots Q (F0 m (pc + 3) ls rest)) : W p l e R s m args below meth c H locs cells slots Q (F0 m pc ls (v :: .ref a :: rest)) :=
  va_putF hx hb hts hin ty0 hty hnm hown hK hw.1 hw.2.1 hw.2.2 q0 he hc k hk hlink (fun x h => by rw [← hsame]; exact h) hfin hin2 hdecl (hty k hk) hn hfit hl hdg (fun H1 locs1 hP hD hS => kk H1 locs1 ⟨hws ▸ hP, hws ▸ hD, hS⟩)
theorem Wd.sub (hw : Wd D A H0 H locs ws) (is : List Nat) (hn : va_nd is = true) (h : is.map (fun i => ws[i]?) = ws'.map some) : Wd D A H0 H locs ws' := ⟨hw.1.sub is (fm_of _ _ h), hw.2.1.sub is hn h, hw.2.2⟩
theorem pre_c (hC : isC.map (fun i => ws[i]?) = wc.map some) (hnd : va_nd isC = true) (hw : Wd D A s.heap H locs ws) (hK : va_K D vwCl [(cA, .int)] s) (hA : ∀ q : Nat, s.heap.size ≤ q → A q) (hZo : z_ok Z) (hZ : Z A s s.heap) : PreS s H (k_pc D cA Z H.size (.ref b :: As) wc) (.ref b :: As) := by
  refine ⟨k_pc_blind hZo, fun U hU hWm => ?_⟩
  have hF := va_free hw.2.1 hw.2.2 hA isC hC
  refine ⟨rfl, by rw [hU], by rw [hU]; exact hw.1.sub isC (fm_of _ _ hC), va_K.moved hWm.alike hK, (hw.2.1.sub isC hnd hC).weaken (fun _ _ _ _ => trivial), ?_⟩
  rw [hU]
  exact hZo.2.2.1 A _ U H hF (hZo.2.1 A U s.heap H (fun a h1 h2 => hw.2.2.2.1 a h1 h2) (hZo.1 A s U s.heap hWm hZ))
def k_qc (D : va_G) (cA : ClassId) (A : Nat → Prop) (wf : (Nat → Nat) → va_W) : Array Value → State → Outcome → State → Prop := va_Qv (fun (_ : Nat → Nat) => True) (fun o t => k_at D cA A (wf o) t) A
def Mn (l : Launch) (y : MethodName) (wd : List Cond) (rm : Room) (D : va_G) (cA : ClassId) (Z : ZT) (as : List Value) (ws : va_W) (mc ms : Nat) (wf : (Nat → Nat) → va_W) : Prop := ∀ sz : Nat, Met l y wd rm (k_pc D cA Z sz as ws) (k_qc D cA (va_A ws sz) wf) mc ms (va_A ws sz)
theorem go_c {wf : (Nat → Nat) → va_W} {a : Array Value} (hr : va_Run p l e R s m args below meth c H locs cells slots mc ms (F0 m pc ls st) rest (k_qc D cA (va_A wc H.size) wf a) (va_A wc H.size)) (hC : isC.map (fun i => ws[i]?) = wc.map some) (hR : isR.map (fun i => ws[i]?) = wr.map some) (hn : va_nd isR = true) (hdis : ∀ i ∈ isR, i ∉ isC) (hw : Wd D A s.heap H locs ws) (hA : ∀ q : Nat, s.heap.size ≤ q → A q)
    (kk : ∀ (o : Nat → Nat) (H1 : Heap) (locs1 : List Loc), Wd D A s.heap H1 locs1 (wr ++ wf o) → W p l e R s m args below meth c H1 locs1 (cells + mc) (slots + ms) Q (F0 m (pc + 3) ls rest)) : W p l e R s m args below meth c H locs cells slots Q (F0 m pc ls st) := by
  have hF := va_free hw.2.1 hw.2.2 hA isC hC
  refine va_callv hr hw.2.2 (fun q _ h => hF q h) hF (fun o t H1 locs1 ht hvm hp hB hz hk hS => ?_)
  obtain ⟨hP1, -, hD1⟩ := hB
  rw [ht] at hP1
  obtain ⟨hP, hD⟩ := va_join hw.1 hw.2.1 isC isR hC hR hn hdis hk hF hP1 hD1
  exact kk o H1 locs1 ⟨hP, hD, hS⟩
end NEW
theorem Mn.of {l : Launch} {y : MethodName} {wd wd' : List Cond} {rm : Room} {D : va_G} {cA : ClassId} {Z : ZT} {as : List Value} {ws : va_W} {wf : (Nat → Nat) → va_W} {mc ms : Nat} {cc : ByteArray} {maxL : Nat}
    (hy : plainName y.cls = true) (hyn : y.name = "<init>") (hwd : wd = Cond.code y cc maxL none :: wd') (hlen : (lg_sl as).length ≤ maxL)
    (body : ∀ (p : Program) (e : Env) (s : State) (m : MethodId) (below : List Frame) (meth : Method) (c : Code) (A : Nat → Prop) (Q : State → Prop),
      p.tables.exec = Jvm.exec → c.code = cc → c.maxLocals = maxL → s.vm.findClass y.cls = some m.cls → meth.name = "<init>" → (∀ w ∈ wd, w.before as.toArray s = true) → va_K D vwCl [(cA, .int)] s → (∀ q : Nat, s.heap.size ≤ q → A q) → Z A s s.heap →
      (∀ (H : Heap) (locs : List Loc) (ls : Array Slot) (pc : Nat) (o : Nat → Nat), Wd D A s.heap H locs (wf o) → decode cc pc = .ok (.return_, 1) → W p l e rm s m as.toArray below meth c H locs mc ms Q (F0 m pc ls [])) →
      ∀ (ls : Array Slot), lv_has ls maxL (lv_args 0 as) → Wd D A s.heap s.heap [] ws → W p l e rm s m as.toArray below meth c s.heap [] 0 0 Q (F0 m 0 ls [])) : Mn l y wd rm D cA Z as ws mc ms wf := by
  intro sz
  refine Met.ofW (cc := cc) (maxL := maxL) (ret := none) hy hwd ?_
  intro p e s m args below meth c s₁ B hml hv
  obtain ⟨rfl, hsz, hP, hK, hD0, hZ⟩ := hv
  have hlocks := B.notSynchronized
  have hr := B.returns
  subst hsz
  rw [lg_entry_eq]
  refine body p e s m below meth c (va_A ws s.heap.size) _ B.exec B.bytes hml (findClass_of_methodNamed B.named) ((name_of_methodNamed B.named B.method).1.trans hyn) (atoms_spec (ws := wd) B.pre) hK (fun q h => Or.inr h) hZ ?_ _ (lv_entry as hlen) ⟨hP, hD0.self, va_S.rf⟩
  intro H locs ls pc o hw hdg
  exact W.vret B.exec B.bytes hr (fun t ht hW => ⟨⟨o, rfl, trivial, by rw [ht]; exact hw.1, va_K.moved hW.alike hK, hw.2.1⟩, hw.2.2.F ht⟩) hw.2.2.2.2 hdg
