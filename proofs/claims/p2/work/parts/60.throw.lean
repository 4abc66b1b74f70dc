/-! Exceptions: a method that throws (MetT), the call that it leaves, the handler that takes it. -/
section MYT
variable {p : Program} {l : Launch} {e : Env} {R : Room} {s : State} {m : MethodId} {args : Array Value} {below : List Frame} {meth : Method} {c : Code} {locs : List Loc} {cells slots : Nat}
/-- the search for a handler over a table of one entry, its class cold or warm -/
theorem my_find {T : State} {f : JFrame} {a : Addr} {x : ExceptionTableEntry} {k : ClassId} {cell : Cell} (hm : T.vm.method? f.method = some meth) (hc : meth.code = some c) (htab : c.exceptionTable.toList = [x])
    (hs : x.startPc ≤ f.pc) (he : f.pc < x.endPc) (h0 : x.catchType ≠ 0) (hl : T.vm.ClassLinks e.platform f.method.cls x.catchType k) (hcell : T.heap[a]? = some cell) (hobj : cell.vm.isStatics = false) (hcls : cell.cls = k)
    (Q : Handler → Pre) (E : CtlPost) (d : Bool) (acts : List Action) :
    wp (findHandler f a) Q E e d acts T ↔ Q (.found x.handlerPc) d acts (T.setVm (T.vm.noted f.method.cls x.catchType (.cls k))) := by
  rw [Jvm.W.findHandler_eq hm hc, htab]
  obtain ⟨g1, g2⟩ := (resolveClass_links e.toSetting hl).op (op := VmOp.resolveClass f.method.cls x.catchType) rfl
  have hal : T.vm.Alike (T.vm.noted f.method.cls x.catchType (.cls k)) := (Vm.Alike.refl T.vm).noted _ _ _
  obtain ⟨_, _, _, kt, _, _, _, _, _, hkt, _, _⟩ := hl.here
  obtain ⟨kt', hkt', -⟩ := hal.2.2 _ _ hkt
  have hfit : (T.vm.noted f.method.cls x.catchType (.cls k)).assignable k k = true := by
    show Vm.assignableAux _ (255 + 1) k k = true
    rw [Vm.assignableAux]
    simp
  have hne : ∀ z, cell.vm ≠ .statics z := fun z h => by rw [h] at hobj; cases hobj
  subst hcls
  simp [findHandler.go, hs, he, h0, g1, g2, hcell, hne, hkt', hfit, VmOp.dirties, VmOp.acts]
theorem my_caught {T target : State} {g : JFrame} {a : Addr} {pc : Nat} {v : Vm} {tb : Tables} (h : At T g.method c below)
    (hf : ∀ (Q : Handler → Pre) (E : CtlPost) (d : Bool) (acts : List Action), wp (findHandler g a) Q E e d acts ((T.setTop g).pushFrame (.throwing a)) ↔ Q (.found pc) d acts (((T.setTop g).pushFrame (.throwing a)).setVm v))
    (hrest : Steps tb e below ((T.setVm v).setTop { g with pc := pc, stack := [.ref a] }) target) : Steps tb e below ((T.setTop g).pushFrame (.throwing a)) target := by
  obtain ⟨hgo, hw⟩ := h.throwing a
  refine Steps.head hgo hw ?_
  have hstep : (stepThrowing e ((T.setTop g).pushFrame (.throwing a)) a (.java g :: (T.setTop g).frames.tail)).Is ((((T.setTop g).pushFrame (.throwing a)).setVm v).setFrames (.java { g with pc := pc, stack := [.ref a] } :: (T.setTop g).frames.tail)) [] := by
    simp only [stepThrowing, searchFrame, vmDo]
    generalize hr : Sem.go _ e false [] ((T.setTop g).pushFrame (.throwing a)) = res
    obtain ⟨as, rfl, ha⟩ := Sem.eq_ok_of hr (a := Handler.found pc) (s' := ((T.setTop g).pushFrame (.throwing a)).setVm v) (acts' := []) (by simp [hf _ _ _ _])
    exact ⟨rfl, ha⟩
  obtain ⟨g0, hg⟩ := Option.isSome_iff_exists.mp h.top
  obtain ⟨r, hr⟩ := State.topJava?_eq_some.mp hg
  have hfr : (T.setTop g).frames.tail = r := by rw [State.frames_setTop' g h.top, hr]; rfl
  rw [hfr] at hstep
  have hr' : (T.setVm v).frames = .java g0 :: r := hr
  rw [State.setTop_of_frames _ hr'] at hrest
  rw [stepThread_throwing (frames_entered h.top _), hr, List.tail_cons, hstep.1]
  rw [State.pushFrame, State.setTop_of_frames _ hr]
  have e1 : ((T.setFrames (Frame.java g :: r)).setFrames (.throwing a :: (T.setFrames (Frame.java g :: r)).frames)).setVm v = ((T.setVm v).setFrames (Frame.java g :: r)).setFrames (.throwing a :: (T.setFrames (Frame.java g :: r)).frames) := rfl
  rw [e1, State.setFrames_setFrames, State.setFrames_setFrames]
  exact hrest
/-- what a method that throws promises -/
def MetT (l : Launch) (y : MethodName) (ws : List Cond) (rm : Room) (Pc : Array Value → State → Prop) (Qt : Array Value → State → Addr → State → Prop) (mc ms : Nat) (free : Addr → Prop) : Prop :=
  MetFree l y (headSpec ws rm) Pc (fun _ _ _ _ _ => True) (fun a st o t => ∃ q, o = .threw q ∧ Qt a st q t ∧ ∃ L, st.WarmedH t.vm ∧ st.sameButNew ({ t with vm := st.vm } : State) L mc ms ∧ ∀ z ∈ L, free z.base)
def MQT (below : List Frame) (Qt : Array Value → State → Addr → State → Prop) (a : Array Value) (s : State) (mc ms : Nat) (free : Addr → Prop) : State → Prop := fun t =>
  ∃ q, t.status = .running ∧ Ended t below (.threw q) ∧ Qt a s q t ∧ ∃ L, s.WarmedH t.vm ∧ s.sameButNew ({ t with vm := s.vm } : State) L mc ms ∧ ∀ z ∈ L, free z.base
theorem MetT.ofW {y : MethodName} {ws ws' : List Cond} {rm : Room} {Pc : Array Value → State → Prop} {Qt : Array Value → State → Addr → State → Prop} {mc ms : Nat} {free : Addr → Prop} {cc : ByteArray} {maxL : Nat} {ret : Option FieldType}
    (hy : plainName y.cls = true) (hw : ws = Cond.code y cc maxL ret :: ws')
    (body : ∀ p e s m args below meth c s₁, BodyLoose p l y (headSpec ws rm) cc maxL ret e s m args below meth c s₁ → c.maxLocals = maxL → c.exceptionTable.toList = [] → Pc args s →
      W p l e (headSpec ws rm).room s m args below meth c s.heap [] 0 0 (MQT below Qt args s mc ms free) (entryFrame m args maxL)) : MetT l y ws rm Pc Qt mc ms free := by
  refine MetFree.of_bodyS (code := cc) (maxLocals := maxL) (ret := ret) hy ?_ ?_
  · intro args s m h hn
    obtain ⟨meth, c, h1, h2, h3, h4, h5, h6, -, -⟩ := Cond.code_spec hn (atoms_spec (ws := ws) h _ (by rw [hw]; exact List.mem_cons_self))
    exact ⟨meth, c, h1, h2, h3, h4, h5, h6⟩
  · intro p e s m args below meth c s₁ B hml hP _
    have hh0 : s₁.heap = s.heap := by rw [B.state]; rfl
    obtain ⟨meth', c', h1, h2, -, -, -, -, hem, -⟩ := Cond.code_spec B.named (atoms_spec (ws := ws) B.pre _ (by rw [hw]; exact List.mem_cons_self))
    cases B.method.symm.trans h1
    cases (Stand.of_body B).code.symm.trans h2
    have h3 : c.exceptionTable.toList = [] := by
      have h0 : c.exceptionTable.size = 0 := by simpa [Array.isEmpty] using hem
      exact List.eq_nil_of_length_eq_zero (by simpa using h0)
    obtain ⟨t, a1, q, b1, b2, b3, L, b4, b5, b6⟩ := body p e s m args below meth c s₁ B hml h3 hP s₁ hh0 (Stand.of_body B)
    exact ⟨t, .threw q, a1, b1, b2, q, rfl, b3, L, b4, b5, b6⟩
end MYT
