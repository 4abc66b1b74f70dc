/-! A helper of the law with a handler: its entry; the call of it. -/
theorem my_enterH {k sa : Nat} {tx : String} {l : Launch} {y : MethodName} {ws ws' : List Cond} {rm : Room} {av : List Value} {D : va_G} {tys : List (ClassId × FieldType)} {W0 : va_W} {sz : Nat} {Qc : (Nat → Prop) → Array Value → State → Outcome → State → Prop} {mc ms : Nat} {cc : ByteArray} {maxL : Nat} {ret : Option FieldType} {h1 h2 h3 h4 : Nat}
    (hy : plainName y.cls = true) (hw : ws = Cond.codeWith y cc maxL ret [(h1, h2, h3, h4)] :: ws') (hle : (lg_sl av).length ≤ maxL)
    (body : ∀ (p : Program) (e : Env) (s : State) (m : MethodId) (below : List Frame) (meth : Method) (c : Code) (A : Nat → Prop) (ls : Array Slot) (x : ExceptionTableEntry), c.exceptionTable.toList = [x] → x.startPc = h1 → x.endPc = h2 → x.handlerPc = h3 → x.catchType = h4 → kT k tx sa A s s.heap → p.tables.exec = Jvm.exec → c.code = cc → meth.sig.returnType = ret → c.maxLocals = maxL → (∀ w ∈ ws, w.before av.toArray s = true) → s.vm.findClass y.cls = some m.cls → meth.locks = false → va_P D vwCl W0 s.heap → va_K D vwCl tys s → va_D A W0 → (∀ q : Nat, s.heap.size ≤ q → A q) → va_S A s.heap s.heap [] → lv_has ls maxL (lv_args 0 av) → W p l e (headSpec ws rm).room s m av.toArray below meth c s.heap [] 0 0 (MQ below (Qc A) av.toArray s mc ms A) (F0 m 0 ls [])) :
    Met l y ws rm (va_Pc av (my_PreT k tx sa D tys W0 sz)) (Qc (va_A W0 sz)) mc ms (va_A W0 sz) := by
  refine va_MetW (cc := cc) (maxL := maxL) (ret := ret) (hh := [(h1, h2, h3, h4)]) hy hw ?_
  intro p e s m args below meth c s₁ B hml hv
  obtain ⟨rfl, ⟨hsz, hP, hK, hD0⟩, hZ⟩ := hv
  subst hsz
  have hl := lv_entry av (n := maxL) hle
  rw [lg_entry_eq]
  obtain ⟨m9, meth9, c9, g1, g2, g3, -, -, g6, -⟩ := Cond.codeWith_spec (atoms_spec (ws := ws) B.pre _ (by rw [hw]; exact List.mem_cons_self))
  cases B.named.symm.trans g1
  cases B.method.symm.trans g2
  cases (Stand.of_body B).code.symm.trans g3
  obtain ⟨x, hx⟩ : ∃ x, c.exceptionTable.toList = [x] := by
    cases hc : c.exceptionTable.toList with
    | nil => rw [hc] at g6; cases g6
    | cons x t =>
      rw [hc] at g6
      cases t with
      | nil => exact ⟨x, rfl⟩
      | cons y t => simp at g6
  rw [hx] at g6
  simp only [List.map_cons, List.map_nil, List.cons.injEq, and_true, Prod.mk.injEq] at g6
  exact body p e s m below meth c (va_A W0 s.heap.size) _ x hx g6.1 g6.2.1 g6.2.2.1 g6.2.2.2 hZ B.exec B.bytes B.returns hml (atoms_spec (ws := ws) B.pre) (findClass_of_methodNamed B.named) B.notSynchronized hP hK (hD0.self (sz := s.heap.size)) (fun q h => Or.inr h) va_S.rf hl
theorem L3.make {D : va_G} {A : Nat → Prop} {X M O : va_W} {H : Heap} (h1 : va_P D vwCl (X ++ O) H) (h2 : va_D A (X ++ O)) (h3 : va_P D vwCl M H) (h4 : va_D A M) (h5 : dj (X ++ O) M) : L3 D A X M O H :=
  ⟨⟨(P_split h1).1, h3, (P_split h1).2⟩, ⟨(D_split h2).1, h4, (D_split h2).2.1⟩, ⟨fun i j p q e1 e2 => h5 i j p q (app_l e1) e2, (D_split h2).2.2, fun i j p q e1 e2 e3 => h5 _ i q p (app_r e2) e1 e3.symm⟩⟩
theorem lc_same (x : Int64) : lg_cmp x x = 0 := by simp [lg_cmp]
theorem nI_p1 (a : Nat) : nI a + 1 = nI (a + 1) := nI_1 a
theorem nI_p2 (a : Nat) : nI a + 2 = nI (a + 2) := nI_add a 2
section HLP
variable {p : Program} {l : Launch} {e : Env} {R : Room} {s : State} {m : MethodId} {args : Array Value} {below : List Frame} {meth : Method} {c : Code} {H H0 : Heap} {locs : List Loc} {cells slots : Nat} {Q : State → Prop}
variable {y : MethodName} {bytes cc : ByteArray} {maxL nL mc ms n index : Nat} {ret : Option FieldType} {ws ws' : List Cond} {rm : Room} {Ts : List Cond} {own C : String} {b : Addr} {As rest : List Value}
variable {pc : Nat} {ls : Array Slot} {st0 : List Value} {D : va_G} {A : Nat → Prop} {tys : List (ClassId × FieldType)} {S : Type} {W1 : S → va_W} {r : Int32} {X M O X1 O1 : va_W} {T : u_T} {N : Nat} {fs : List Value} {Pre : State → Prop} {tysc : List (ClassId × FieldType)} {hh : List (Nat × Nat × Nat × Nat)} {Tb ws0 : List Cond}
/-- an int method of another object over the first part of the world -/
theorem hp_V {X O : va_W} (S0 : CallFix p m c cc nL s args Ts own) (hM : Met l y ws rm (va_Pc (.ref b :: As) (my_Pre D tysc X H.size)) (my_Qi D tysc r (fun _ : Unit => X) (va_A X H.size)) 0 0 (va_A X H.size))
    (cw : CallW R s args own C index y bytes maxL ret ws rm 0 0 n) (hK : va_K D vwCl tys s) (hKc : va_K D vwCl tysc s) (hP : va_P D vwCl (X ++ O) H) (hD : va_D A (X ++ O)) (hS : va_S A H0 H locs) (hA : ∀ q, H0.size ≤ q → A q)
    (q0 ci : Nat) (he : X[q0]? = some (b, .inr (ci, fs))) (hc : vwCl[ci]? = some (C, T, N)) (hn : As.length = n) (hsize : ls.size = nL) (hst : st0 = As.reverse ++ .ref b :: rest) (hW : (rest.map fun v => v.category).sum ≤ 8) (hdg : decode cc pc = .ok (.invokevirtual index, 3)) (hf : cells + 0 ≤ R.cells ∧ slots + 0 ≤ R.slots)
    (kk : ∀ (H1 : Heap) (locs1 : List Loc), va_P D vwCl (X ++ O) H1 → va_S A H0 H1 locs1 → W p l e R s m args below meth c H1 locs1 (cells + 0) (slots + 0) Q (F0 m (pc + 3) ls (.int r :: rest))) : W p l e R s m args below meth c H locs cells slots Q (F0 m pc ls st0) := by
  obtain ⟨hPX, hPO⟩ := P_split hP
  obtain ⟨hDX, hDO, hdj⟩ := D_split hD
  have hF := my_F hDX hS hA
  refine va_calli (va_runV (As := As) (rest := rest) S0 hM cw ⟨my_blind, va_recv hK hPX hc he, fun U hU hW => ⟨rfl, by rw [hU], by rw [hU]; exact hPX, va_K.moved hW.alike hKc, hDX.weaken (fun _ _ _ _ => trivial)⟩⟩ rfl hn hsize hst (lv_room hW) hdg hf) hS (fun q _ h => hF q h) hF (fun r' u t H1 locs1 ht hvm hw hB hz1 hk1 hS1 => ?_)
  obtain ⟨hP1, hK1, hD1⟩ := hB
  rw [ht] at hP1
  rw [show r' = r from hw]
  exact kk H1 locs1 (hP1.app (P_step hdj hPO hk1)) hS1
/-- the law calls a helper of its own that has a handler, over the first part and the third -/
theorem la_H (S0 : CallFix p m c cc nL s args Ts own) (hM : Met l y ws rm (va_Pc As Pre) (my_Qi D tysc r W1 (va_A (X ++ O) H.size)) mc ms (va_A (X ++ O) H.size)) (hbl : FrameBlind (va_Pc As Pre)) (hPre : ∀ U : State, U.heap = H → s.WarmedH U.vm → Pre U)
    (ht : ∀ w ∈ Tb, w.before args s = true) (hG : GoodIn Tb ws) (hw : ws = Cond.codeWith y bytes maxL ret hh :: ws') (hG0 : GoodIn Ts (wsS own index y ws0)) (hyc : y.cls = own)
    (hd : y.cls ≠ "java/lang/invoke/MethodHandle" ∧ y.cls ≠ "java/lang/invoke/VarHandle" ∧ (parseMethodDescriptor y.desc).map (fun d => d.parameters.length) = some n) (hR : rm.frames + 1 ≤ R.frames ∧ 8 + (maxL + 11) + rm.locals ≤ R.locals) (hrc : rm.cells = mc) (hrs : rm.slots = ms)
    (hL : L3 D A X M O H) (hS : va_S A H0 H locs) (hA : ∀ q, H0.size ≤ q → A q)
    (hn : As.length = n) (hsize : ls.size = nL) (hstk : st0 = As.reverse ++ rest) (hW : (rest.map fun v => v.category).sum ≤ 8) (hdg : decode cc pc = .ok (.invokestatic index, 3)) (hf : cells + mc ≤ R.cells ∧ slots + ms ≤ R.slots)
    (kk : ∀ (u : S) (H1 : Heap) (locs1 : List Loc), va_P D vwCl (W1 u) H1 → va_D A (W1 u) → va_P D vwCl M H1 → va_D A M → dj (W1 u) M → va_S A H0 H1 locs1 → W p l e R s m args below meth c H1 locs1 (cells + mc) (slots + ms) Q (F0 m (pc + 3) ls (.int r :: rest))) : W p l e R s m args below meth c H locs cells slots Q (F0 m pc ls st0) := by
  have hPX : va_P D vwCl (X ++ O) H := hL.1.1.app hL.1.2.2
  have hDX : va_D A (X ++ O) := hL.2.1.1.app hL.2.1.2.2 hL.2.2.2.1
  have hdM : dj (X ++ O) M := fun i j p q h1 h2 e => by
    rcases Nat.lt_or_ge i X.length with h3 | h3
    · rw [List.getElem?_append_left h3] at h1
      exact hL.2.2.1 i j p q h1 h2 e
    · rw [List.getElem?_append_right h3] at h1
      exact hL.2.2.2.2 j _ q p h2 h1 e.symm
  have hF := my_F hDX hS hA
  obtain ⟨hx, hb, hml, ho, hts⟩ := S0
  have hst : (Cond.static y).before args s = true := hts _ ((hG0 _ (by simp [wsS])).1)
  have hini : (Cond.initialized y.cls).before args s = true := by rw [hyc]; exact hts _ ((hG0 _ (by simp [wsS])).1)
  have hlk : (Cond.methodLink own index y).before args s = true := hts _ ((hG0 _ (by simp [wsS])).1)
  have hc0 : Cond.codeWith y bytes maxL ret hh ∈ ws := by rw [hw]; exact List.mem_cons_self
  have hcode : (Cond.codeWith y bytes maxL ret hh).before args s = true := ht _ (hG _ hc0).1
  have hB : Back l R p e below s args y 3 8 (PreOf R mc ms (va_Pc As Pre)) (PostOf (my_Qi D tysc r W1 (va_A (X ++ O) H.size)) mc ms (va_A (X ++ O) H.size)) :=
    va_backW (bytes := bytes) (maxL := maxL) (ret := ret) (hh := hh) hM hbl hrc hrs hR.1 hR.2 (pay_in ht hG) hc0 (fun a' U hW => word_at hW (Or.inl (by first | rfl | simp [Cond.onTables, Cond.keeps, Cond.steady])) hini)
  have hrun : va_Run p l e R s m args below meth c H locs cells slots mc ms (F0 m pc ls st0) rest (my_Qi D tysc r W1 (va_A (X ++ O) H.size) As.toArray) (va_A (X ++ O) H.size) := by
    intro T9 hT X9
    obtain ⟨mk, methM, cM, hnamed, hmethM, -, -, -, -, -, -, hsigM⟩ := Cond.codeWith_spec hcode
    have hstatic : methM.isStatic = true := Cond.static_spec hnamed hmethM hst
    obtain ⟨kP, hkP, -⟩ := className_of_methodNamed hnamed
    have hinitP : kP.init = .initialized := Cond.initialized_spec (findClass_of_methodNamed hnamed) hkP hini
    have hlen : As.length = methM.sig.parameters.length := by
      have h2 := hd.2.2
      rw [hsigM] at h2
      exact hn.trans (Option.some.inj h2).symm
    obtain ⟨vm1, X1, hstep1⟩ := X9.invokestatic hx ho hlk hnamed hmethM hstatic hkP hinitP ⟨hd.1, hd.2.1⟩ (g := F0 m pc ls st0) rfl (argsL := As) (rest := rest) hlen hstk (by rw [hb]; exact hdg)
    obtain ⟨v, ⟨U', l2, c2, s2⟩, X', ⟨g', mk', t, L, e1, e2, hq, h1, hL9, h2, h3⟩, hsteps⟩ := hB m meth c ⟨T9.setVm vm1, locs, cells, slots⟩ (F0 m pc ls rest) (.invokestatic index) mk As.toArray X1 rfl (hsize.trans hml.symm) (by rw [hb]; exact hdg) (lv_room hW) (X1.named hnamed) ⟨hf.1, hf.2, rfl, hPre (T9.setVm vm1) hT X1.warmed⟩
    dsimp only [Pt.U, Pt.locs, Pt.cells, Pt.slots] at X' e1 e2 h1 h2 h3 hsteps
    subst h1; subst h2; subst h3
    exact ⟨v, (T9.setVm vm1).calling g' mk' As.toArray, t, U', L, hT, X', hL9, e1, e2, hq, fun target h => hstep1 _ fun acts => by rw [doInvoke_state]; exact hsteps.trans h⟩
  refine va_calli hrun hS (fun q _ h => hF q h) hF (fun r' u t H1 locs1 ht hvm hw hB hz1 hk1 hS1 => ?_)
  obtain ⟨hP1, hK1, hD1⟩ := hB
  rw [ht] at hP1
  rw [show r' = r from hw]
  exact kk u H1 locs1 hP1 (hD1.weaken (fun _ q _ ha => hF q.1 ha)) (P_step hdM hL.1.2.1 hk1) hL.2.1.2.1 (dj_step (A := A) hdM (fun k q hq => (hL.1.2.1 k q hq).lt) hD1) hS1
end HLP
