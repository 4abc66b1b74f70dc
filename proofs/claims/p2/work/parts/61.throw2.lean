/-! What a throw reads of the heap (two statics of Throwable, the message), carried like the table of keys; the throw; the call that is left by it. -/
def zS (C n d : String) (A : Nat → Prop) (U : State) (H : Heap) : Prop := ∃ (c : ClassId) (k : Class) (i : Nat) (f : Field) (a : Nat) (cell : Cell) (v : Value), U.vm.findClass C = some c ∧ U.fieldFound? C n d = some (c, k, i, f) ∧ f.isStatic = true ∧ k.statics = some a ∧ H[a]? = some cell ∧ cell.vm.isStatics = true ∧ cell.cls = c ∧ f.slot < cell.slots.size ∧ k.staticTypes[f.slot]? = some f.type ∧ cell.slots[f.slot]? = some v ∧ (v = .null ∨ ∃ t, v = .ref t) ∧ ¬ A a
theorem zS.moved {C n d : String} {A : Nat → Prop} {u U : State} {H : Heap} (hvm : u.vm.Alike U.vm) (h : zS C n d A u H) : zS C n d A U H := by
  obtain ⟨c, k, i, f, a, cell, v, h0, h1, h2, h3, h4, h5, h6, h7, h8, h9⟩ := h
  obtain ⟨k', hi', he⟩ := State.fieldFound?_setVm hvm h1
  exact ⟨c, k', i, f, a, cell, v, by rw [hvm.findClass]; exact h0, hi', h2, by rw [he]; exact h3, h4, h5, h6, h7, by rw [he]; exact h8, h9⟩
theorem zS.kept {C n d : String} {A : Nat → Prop} {U : State} {H H1 : Heap} (h : zS C n d A U H) (hq : ∀ a : Nat, a < H.size → ¬ A a → H1[a]? = H[a]?) : zS C n d A U H1 := by
  obtain ⟨c, k, i, f, a, cell, v, h0, h1, h2, h3, h4, h5, h6, h7, h8, h9, h10, h11⟩ := h
  exact ⟨c, k, i, f, a, cell, v, h0, h1, h2, h3, by rw [hq a (Array.getElem?_eq_some_iff.mp h4).1 h11]; exact h4, h5, h6, h7, h8, h9, h10, h11⟩
theorem zS.narrow {C n d : String} {A B : Nat → Prop} {U : State} {H : Heap} (h : zS C n d A U H) (hAB : ∀ q, B q → A q) : zS C n d B U H := by
  obtain ⟨c, k, i, f, a, cell, v, h0, h1, h2, h3, h4, h5, h6, h7, h8, h9, h10, h11⟩ := h
  exact ⟨c, k, i, f, a, cell, v, h0, h1, h2, h3, h4, h5, h6, h7, h8, h9, h10, fun z => h11 (hAB a z)⟩
theorem zS.of {args : Array Value} {s : State} {C n d : String} {A : Nat → Prop} (hl : (Cond.laysStatic C n d).before args s = true) (hv : (Cond.isRef (.static C n d)).before args s = true) (hA : ∀ a : Nat, a < s.heap.size → ¬ A a) : zS C n d A s s.heap := by
  obtain ⟨c, k, i, f, a, cell, hc, hi, hst, ha, hcell, hs, hcls, hlt, hty⟩ := Cond.laysStatic_spec hl
  cases hw : (Term.static C n d).eval args s none [] s with
  | none => simp [Cond.before, Cond.holds, Cond.value, hw] at hv
  | some v =>
    obtain ⟨hst', a', cell', ha', hcell', -, hslot⟩ := Term.static_spec hi hw
    cases ha.symm.trans ha'
    cases hcell.symm.trans hcell'
    refine ⟨c, k, i, f, a, cell, v, hc, hi, hst, ha, hcell, hs, hcls, hlt, hty, hslot, ?_, hA a (Array.getElem?_eq_some_iff.mp hcell).1⟩
    cases v <;> simp [Cond.before, Cond.holds, Cond.value, hw] at hv ⊢
theorem zS.lays {args : Array Value} {s : State} {C n d : String} {A : Nat → Prop} (h : zS C n d A s s.heap) : (Cond.laysStatic C n d).before args s = true := by
  obtain ⟨c, k, i, f, a, cell, v, h0, h1, h2, h3, h4, h5, h6, h7, h8, h9, h10, h11⟩ := h
  simp [Cond.before, Cond.holds, Cond.value, h0, h1, h2, h3, h4, h5, h6, h7, h8]
theorem zS.isRef {args : Array Value} {s : State} {C n d : String} {A : Nat → Prop} (h : zS C n d A s s.heap) : (Cond.isRef (.static C n d)).before args s = true := by
  obtain ⟨c, k, i, f, a, cell, v, h0, h1, h2, h3, h4, h5, h6, h7, h8, h9, h10, h11⟩ := h
  have hw : (Term.static C n d).eval args s none [] s = some v := by
    simp [Term.eval, State.fieldNamed?, h1, h2, h3, h4, h5, h9]
  rcases h10 with rfl | ⟨t, rfl⟩ <;> simp [Cond.before, Cond.holds, Cond.value, hw]
/-- the words of a throw but the four that speak of the heap -/
def thr_tab (own : String) (ic : Nat) (X : String) (names : List String) : List Cond := (Bundle.ownAtoms own ic X names).filter (fun w => decide (w ≠ .isRef (.static Bundle.tN "UNASSIGNED_STACK" Bundle.steD)) && decide (w ≠ .isRef (.static Bundle.tN "SUPPRESSED_SENTINEL" Bundle.listD)) && decide (w ≠ .laysStatic Bundle.tN "UNASSIGNED_STACK" Bundle.steD) && decide (w ≠ .laysStatic Bundle.tN "SUPPRESSED_SENTINEL" Bundle.listD))
theorem thr_all {args : Array Value} {s : State} {own X : String} {ic : Nat} {names : List String} {A : Nat → Prop} (h : ∀ w ∈ thr_tab own ic X names, w.before args s = true)
    (h1 : zS Bundle.tN "UNASSIGNED_STACK" Bundle.steD A s s.heap) (h2 : zS Bundle.tN "SUPPRESSED_SENTINEL" Bundle.listD A s s.heap) : ∀ w ∈ Bundle.ownAtoms own ic X names, w.before args s = true := by
  intro w hw
  rcases Classical.em (w = .isRef (.static Bundle.tN "UNASSIGNED_STACK" Bundle.steD)) with rfl | n1
  · exact h1.isRef
  rcases Classical.em (w = .isRef (.static Bundle.tN "SUPPRESSED_SENTINEL" Bundle.listD)) with rfl | n2
  · exact h2.isRef
  rcases Classical.em (w = .laysStatic Bundle.tN "UNASSIGNED_STACK" Bundle.steD) with rfl | n3
  · exact h1.lays
  rcases Classical.em (w = .laysStatic Bundle.tN "SUPPRESSED_SENTINEL" Bundle.listD) with rfl | n4
  · exact h2.lays
  exact h w (List.mem_filter.mpr ⟨hw, by simp [n1, n2, n3, n4]⟩)
theorem same_old {s U : State} {k n : Nat} (h : s.sameButNew ({ U with vm := s.vm } : State) [] k n) : s.heap.size ≤ U.heap.size ∧ ∀ q : Nat, q < s.heap.size → U.heap[q]? = s.heap[q]? := by
  obtain ⟨-, h2, -, -, -, h6⟩ := h
  refine ⟨h2, fun q hq => ?_⟩
  obtain ⟨cell, e1, e2, -, e4⟩ := h6 q _ (Array.getElem?_eq_getElem hq)
  have e5 : cell.slots = (s.heap[q]).slots := Array.ext_getElem? fun i => e4 i (fun hm => by cases hm)
  have e6 : cell = s.heap[q] := by rw [e5] at e2; exact e2
  have e7 : U.heap[q]? = some cell := e1
  rw [e7, e6, Array.getElem?_eq_getElem hq]
section MYV
variable {p : Program} {l : Launch} {e : Env} {R : Room} {s : State} {m : MethodId} {args : Array Value} {below : List Frame} {meth : Method} {c : Code} {H : Heap} {locs : List Loc} {cells slots : Nat} {Q : State → Prop}
variable {cc : ByteArray} {pc : Nat} {ls : Array Slot}
/-- new, dup, ldc, invokespecial, athrow: out of the method -/
theorem my_thr {own X tx : String} {ix ic k sa : Nat} {names : List String} {cX : ClassId} {Qt : Array Value → State → Addr → State → Prop} {free : Addr → Prop} (hexec : p.tables.exec = Jvm.exec) (hb : c.code = cc) (hno : l.stackTraces = false) (htab : c.exceptionTable.toList = []) (hlocks : meth.locks = false) (hown : s.vm.findClass own = some m.cls)
    (hcl : (Cond.classLink own ix X).before args s = true) (hins : (Cond.instantiable X 6).before args s = true) (hini : (Cond.initialized X).before args s = true) (hfc : s.vm.findClass X = some cX) (hX : Bundle.fit X = true) (hnames : ∀ z ∈ names, Bundle.fit z = true)
    (hat : ∀ w ∈ Bundle.ownAtoms own ic X names, w.before args s = true) (hZ : vk_R own k tx sa s)
    (d0 : decode cc pc = .ok (.new ix, 3)) (d3 : decode cc (pc + 3) = .ok (.dup, 1)) (d4 : decode cc (pc + 3 + 1) = .ok (.ldc k, 2)) (d6 : decode cc (pc + 3 + 1 + 2) = .ok (.invokespecial ic, 3)) (d9 : decode cc (pc + 3 + 1 + 2 + 3) = .ok (.athrow, 1))
    (hf1 : names.length + 3 < R.frames) (hf2 : 1 + (13 * (names.length + 1) + 42) ≤ R.locals) (hf3 : 1 ≤ R.cells) (hf4 : 6 ≤ R.slots) (hsize : ls.size = c.maxLocals)
    (hQ : ∀ (t : State) (q : Addr) (ce : Cell), s.WarmedH t.vm → s.heap.size ≤ t.heap.size → (∀ z, z < s.heap.size → t.heap[z]? = s.heap[z]?) → t.heap[q]? = some ce → ce.vm = .none → ce.cls = cX → Qt args s q t) :
    W p l e R s m args below meth c s.heap [] 0 0 (MQT below Qt args s 1 6 free) (F0 m pc ls []) := by
  refine W.newcK hexec hb hown hcl hins hini rfl d0 (by omega) (by omega) hfc rfl fun H1 kC hkC e1 z1 o1 => ?_
  refine lv_dup hexec hb d3 rfl ?_
  refine va_ldcS hexec hb hown hZ d4 ?_
  intro T hT X0
  have hpl : e.platform.stackTraces = false := by rw [X0.admits.platform]; exact hno
  obtain ⟨U, h1, h2, h3, h4, h5, ce, h6, h7⟩ := X0.ctorThrowS hexec hpl (own := own) (cls := X) (names := names) (ic := ic) hown hX hnames hat (fun x hx => by cases hx) hfc hkC (a := s.heap.size) (by rw [hT]; exact e1) (Nat.le_refl _) (msg := .ref sa) rfl
    (g := F0 m (pc + 3 + 1 + 2) ls [.ref sa, .ref s.heap.size, .ref s.heap.size]) rfl hsize rfl rfl (rest := []) rfl (by rw [hb]; exact d6) (by rw [hb]; exact d9) (by rw [htab]; intro x hx; cases hx) hf1 (by simpa [JFrame.monitorRoom, Value.category] using hf2) hlocks
  obtain ⟨z2, o2⟩ := same_old h5
  refine ⟨U, h1, s.heap.size, h2, h3, hQ U _ ce h4 z2 o2 h6 h7.vm ?_, [], h4, h5, fun z hz => by cases hz⟩
  have := h7.cls
  rw [hfc] at this
  exact (Option.some.inj this).symm
variable {y : MethodName} {bytes : ByteArray} {maxL nL mc ms n index : Nat} {ret : Option FieldType} {ws : List Cond} {rm : Room} {Ts : List Cond} {own C : String} {b : Addr} {As rest : List Value} {Pc : Array Value → State → Prop} {Qt : Array Value → State → Addr → State → Prop} {free : Addr → Prop}
theorem my_backT {T : State} (hM : MetT l y ws rm Pc Qt mc ms free) (hblind : FrameBlind Pc) (cb : CallB R s args own index y bytes maxL ret ws rm mc ms n)
    (X : Stand p l e R s m args below meth c T locs cells slots) {g : JFrame} {ig : Instr} {len : Nat} {mk : MethodId} {a : Array Value} (hg : g.method = m) (hsize : g.locals.size = c.maxLocals) (hdg : decode c.code g.pc = .ok (ig, len)) (hW : 2 * g.monitorRoom + (g.stack.map fun v => v.category).sum ≤ 8) (hn : T.methodNamed? y = some mk) (hp : Pc a T) (hf : cells + mc ≤ R.cells ∧ slots + ms ≤ R.slots) :
    ∃ (q : Addr) (t T' : State) (L : List Loc), Stand p l e R s m args below meth c T' (locs ++ L) (cells + mc) (slots + ms) ∧ (∀ z ∈ L, free z.base) ∧ T'.heap = t.heap ∧ Qt a (T.calling g mk a) q t ∧ Steps p.tables e below (doInvoke e (T.setTop g) [] mk a).1 ((T'.setTop g).pushFrame (.throwing q)) := by
  obtain ⟨hrc, hrs, hfr, hlo, hws, hcw, -, hini, -⟩ := cb
  have h1 : (headSpec ws rm).pre.before a T = true := atoms_intro fun w hw => hws w hw _ _ X.warmed
  have h2 := hws _ hcw a T X.warmed
  have h3 : (Cond.initialized y.cls).before a T = true := word_at X.warmed (Or.inl (by first | rfl | simp [Cond.onTables, Cond.keeps, Cond.steady])) hini
  obtain ⟨methY, cY, hmY, hcY, -, hlY, -, -, -, -⟩ := Cond.code_spec hn h2
  obtain ⟨kY, hkY, -⟩ := className_of_methodNamed hn
  have hinitY : kY.init = .initialized := Cond.initialized_spec (findClass_of_methodNamed hn) hkY h3
  have h : At T g.method c below := by rw [hg]; exact X.here
  have happ : (headSpec ws rm).appliesLoose y e.platform (T.calling g mk a) = true :=
    Spec.appliesLoose_calling (g := g) h hdg hn hkY hinitY
      (X.room_calling (g := g) (R' := (headSpec ws rm).room) hsize hmY hcY hfr (by rw [hlY]; show _ ≤ _; have : (headSpec ws rm).room.locals = rm.locals := rfl; omega) (by show cells + rm.cells ≤ _; rw [hrc]; exact hf.1) (by show slots + rm.slots ≤ _; rw [hrs]; exact hf.2)) h1
  obtain ⟨mid, hmid⟩ := h.above
  have hfr2 : (T.setTop g).frames = (.java g :: mid) ++ below := by rw [State.frames_setTop' g h.top, hmid]; rfl
  obtain ⟨o, s2, hsteps, -, hend, hq⟩ := Steps.callFree hM p X.admits X.cas X.clock (acts := []) hfr2 happ (hblind _ _ _ _ hp) trivial
  obtain ⟨q, rfl, hQ, L, hW2, hsm, hL⟩ := hq
  rw [State.frames_setTop' g h.top, X.tail] at hend
  obtain ⟨T', X', -, -, ht⟩ := X.outOfThrown hg hend hW2 hsm
  refine ⟨q, s2, T', L, X', hL, by rw [ht]; rfl, hQ, ?_⟩
  rw [← ht]
  exact hsteps
/-- a call that throws, taken by the caller's one handler -/
theorem my_cVt {st0 : List Value} {x : ExceptionTableEntry} {name : String} (S0 : CallFix p m c cc nL s args Ts own) (hM : MetT l y ws rm Pc Qt mc ms free) (hbl : FrameBlind Pc) (cw : CallW R s args own C index y bytes maxL ret ws rm mc ms n)
    (hrecv : ∃ cellB : Cell, H[b]? = some cellB ∧ cellB.vm.isStatics = false ∧ s.vm.findClass C = some cellB.cls) (hPc : ∀ U : State, U.heap = H → s.WarmedH U.vm → Pc (Value.ref b :: As).toArray U)
    (hn : As.length = n) (hsize : ls.size = nL) (hst : st0 = As.reverse ++ .ref b :: rest) (hW : (rest.map fun v => v.category).sum ≤ 8) (hdg : decode cc pc = .ok (.invokevirtual index, 3)) (hf : cells + mc ≤ R.cells ∧ slots + ms ≤ R.slots)
    (htab : c.exceptionTable.toList = [x]) (hs : x.startPc ≤ pc) (he : pc < x.endPc) (h0 : x.catchType ≠ 0) (hlink : (Cond.classLink own x.catchType name).before args s = true)
    (hcell : ∀ st q t, Qt (Value.ref b :: As).toArray st q t → ∃ ce : Cell, t.heap[q]? = some ce ∧ ce.vm.isStatics = false ∧ s.vm.findClass name = some ce.cls)
    (kk : ∀ (q : Addr) (st t : State) (L : List Loc), st.heap = H → (∀ z ∈ L, free z.base) → Qt (Value.ref b :: As).toArray st q t → W p l e R s m args below meth c t.heap (locs ++ L) (cells + mc) (slots + ms) Q (F0 m x.handlerPc ls [.ref q])) : W p l e R s m args below meth c H locs cells slots Q (F0 m pc ls st0) := by
  intro T hT X
  obtain ⟨cb, hin, hse⟩ := cw
  obtain ⟨-, -, -, -, -, -, hcode, -, hy, hlen, hl⟩ := id cb
  obtain ⟨hx, hb, hml, ho, -⟩ := S0
  obtain ⟨cellB, hcB, hoB, hclB⟩ := hrecv
  obtain ⟨mk, methM, hnamed, hmethM, hstM, habM⟩ := Cond.instanceMethod_spec hin
  obtain ⟨methM', cM, hmethM', -, -, -, -, -, -, hsigM⟩ := Cond.code_spec hnamed hcode
  cases hmethM.symm.trans hmethM'
  obtain ⟨c2, r2, m2, q1, q2, q3, q4, kP, hkP, hkPi⟩ := Cond.selects_spec hse
  cases hclB.symm.trans q1
  cases (State.methodFound?_of_named hnamed hy).symm.trans q2
  cases hnamed.symm.trans q3
  have hselP : selectMethod e.platform s.vm cellB.cls mk = .method mk := by rw [Launch.admits_selectMethod X.admits]; exact q4
  obtain ⟨vm1, X1, hstep1⟩ := X.invokevirtual hx ho hl hnamed hmethM hstM hkP hkPi hy (a := b) (cell := cellB) (by rw [hT]; exact hcB) (fun z h => by rw [h] at hoB; cases hoB) hselP hmethM habM hkP hkPi (g := F0 m pc ls st0) rfl (argsL := As) (rest := rest) (hn.trans (hlen _ hsigM)) hst (by rw [hb]; exact hdg)
  obtain ⟨q, t, T', L, X', hL, hh, hQ, hsteps⟩ := my_backT (a := (Value.ref b :: As).toArray) hM hbl cb X1 (g := F0 m pc ls rest) (ig := .invokevirtual index) (len := 3) rfl (hsize.trans hml.symm) (by rw [hb]; exact hdg) (by simpa [JFrame.monitorRoom] using hW) (X1.named hnamed) (hPc _ hT X1.warmed) hf
  obtain ⟨ce, g1, g2, g3⟩ := hcell _ q t hQ
  have hpl : e.platform.magicAccessors = ({} : Platform).magicAccessors := by rw [X.admits.platform]
  obtain ⟨k9, hk9, hcl⟩ := Cond.classLink_spec ho hlink e.platform hpl
  cases g3.symm.trans hk9
  have hcl0 := X'.warmed.classLinks hcl
  obtain ⟨dk, _, _, kt, hd, _, _, _, _, hkt, _, hopen⟩ := hcl.here
  have hW' : s.WarmedH (T'.vm.noted m.cls x.catchType (.cls ce.cls)) := X'.warmed.noted hd hopen (State.rightAt_cls hcl)
  obtain ⟨t2, a1, b1⟩ := kk q _ t L (show ((T.setVm vm1).calling (F0 m pc ls rest) mk (Value.ref b :: As).toArray).heap = H from hT) hL hQ (T'.setVm (T'.vm.noted m.cls x.catchType (.cls ce.cls))) hh (X'.noted hW')
  refine ⟨t2, hstep1 _ (fun acts => ?_), b1⟩
  rw [doInvoke_state]
  exact hsteps.trans (my_caught (g := F0 m pc ls rest) X'.here (my_find (T := (T'.setTop (F0 m pc ls rest)).pushFrame (.throwing q)) (f := F0 m pc ls rest) X'.method' X'.code htab hs he h0 hcl0 (by show T'.heap[q]? = some ce; rw [hh]; exact g1) g2 rfl) a1)
end MYV
