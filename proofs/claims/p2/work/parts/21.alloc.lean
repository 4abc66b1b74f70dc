/-! Calls of methods that make cells: the room that a callee asks may be more than what it makes. -/
section MYB
variable {l : Launch} {R : Room} {p : Program} {e : Env} {below : List Frame} {s : State} {sargs : Array Value} {y : MethodName} {len W : Nat}
theorem my_back {ws : List Cond} {rm : Room} {Pc : Array Value → State → Prop} {Qc : Array Value → State → Outcome → State → Prop} {mc ms : Nat} {free : Addr → Prop} {bytes : ByteArray} {maxL : Nat} {ret : Option FieldType}
    (hM : Met l y ws rm Pc Qc mc ms free) (hblind : FrameBlind Pc)
    (hframes : rm.frames + 1 ≤ R.frames) (hlocals : W + (maxL + 11) + rm.locals ≤ R.locals)
    (hws : ∀ w ∈ ws, ∀ a' U, s.WarmedH U.vm → w.before a' U = true) (hcode : Cond.code y bytes maxL ret ∈ ws) (hinit : ∀ a' U, s.WarmedH U.vm → (Cond.initialized y.cls).before a' U = true) :
    Back l R p e below s sargs y len W (PreOf R rm.cells rm.slots Pc) (PostOf Qc mc ms free) := by
  refine Back.of_free (S := headSpec ws rm) (P := Pc) (K := fun _ _ _ _ _ => True) (Q := fun a st o t => Qc a st o t ∧ ∃ L, FrameEnd st o t L mc ms ∧ ∀ q ∈ L, free q.base) (bytes := bytes) (maxL := maxL) (ret := ret)
    (E := fun a st o t L k n => k = mc ∧ n = ms ∧ ∀ q ∈ L, free q.base) hM hframes hlocals ?_ ?_ (fun _ _ _ _ _ _ _ _ _ => trivial) ?_ ?_
  · intro m meth c A a X hp
    exact ⟨atoms_intro fun w hw => hws w hw _ _ X.warmed, hws _ hcode _ _ X.warmed, hinit _ _ X.warmed, hp.1, hp.2.1⟩
  · intro m meth c A a g mk X hp
    exact hblind _ _ _ _ hp.2.2
  · intro a st o t ⟨hq, L, hF, hL⟩
    exact ⟨L, mc, ms, hF, rfl, rfl, hL⟩
  · intro m meth c A a g mk v t L k n X hp hq hF ⟨e1, e2, hL⟩
    subst e1; subst e2
    exact ⟨g, mk, t, L, rfl, rfl, hq.1, rfl, hL, rfl, rfl⟩
end MYB
section MYC
variable {p : Program} {l : Launch} {e : Env} {R : Room} {s : State} {m : MethodId} {args : Array Value} {below : List Frame} {meth : Method} {c : Code} {H : Heap} {locs : List Loc} {cells slots : Nat} {Q : State → Prop}
variable {y : MethodName} {bytes cc : ByteArray} {maxL nL mc ms n index : Nat} {ret : Option FieldType} {ws : List Cond} {rm : Room} {Pc : Array Value → State → Prop} {Qc : Array Value → State → Outcome → State → Prop} {free : Addr → Prop} {Ts : List Cond} {own C : String} {b : Addr} {As rest : List Value} {g : JFrame}
theorem my_callBack (cb : CallB R s args own index y bytes maxL ret ws rm rm.cells rm.slots n) (hM : Met l y ws rm Pc Qc mc ms free) (hbl : FrameBlind Pc) : Back l R p e below s args y 3 8 (PreOf R rm.cells rm.slots Pc) (PostOf Qc mc ms free) := by
  obtain ⟨hrc, hrs, hfr, hlo, hws, hcw, -, hini, -⟩ := cb
  exact my_back (bytes := bytes) (maxL := maxL) (ret := ret) hM hbl hfr hlo hws hcw (fun a' U hW => word_at hW (Or.inl (by first | rfl | simp [Cond.onTables, Cond.keeps, Cond.steady])) hini)
theorem my_runV (S : CallFix p m c cc nL s args Ts own) (hM : Met l y ws rm Pc Qc mc ms free) (cw : CallW R s args own C index y bytes maxL ret ws rm rm.cells rm.slots n) (hp : PreV s H C b Pc As)
    (hg : g.method = m) (hn : As.length = n) (hsize : g.locals.size = nL) (hstack : g.stack = As.reverse ++ .ref b :: rest) (hW : 2 * g.monitorRoom + (rest.map fun v => v.category).sum ≤ 8) (hdg : decode cc g.pc = .ok (.invokevirtual index, 3)) (hf : cells + rm.cells ≤ R.cells ∧ slots + rm.slots ≤ R.slots) :
    va_Run p l e R s m args below meth c H locs cells slots mc ms g rest (Qc (Value.ref b :: As).toArray) (free) := by
  have hK : Back l R p e below s args y 3 8 (PreOf R rm.cells rm.slots Pc) (PostOf Qc mc ms free) := my_callBack cw.1 hM hp.1
  obtain ⟨⟨-, -, -, -, -, -, hcode, -, hy, hlen, hl⟩, hin, hse⟩ := cw
  obtain ⟨hx, hb, hml, ho, -⟩ := S
  obtain ⟨-, ⟨cellB, hcB, hoB, hclB⟩, hPc⟩ := hp
  intro T hT X
  obtain ⟨v, vm₁, ⟨U', l2, c2, s2⟩, hW₁, X', ⟨g', mk, t, L, e1, e2, hq, h1, hL, h2, h3⟩, st⟩ := callV X hx (C := C) (bytes := bytes) (maxL := maxL) (ret := ret) ho hl hin hse hcode hy hK (by rw [hT]; exact hcB) hoB hclB hg (hsize.trans hml.symm) (argsL := As) (rest := rest) (fun sig h => hn.trans (hlen sig h)) hstack hW (by rw [hb]; exact hdg)
    (fun vm₁ hW₁ => ⟨hf.1, hf.2, hPc (T.setVm vm₁) hT hW₁⟩)
  dsimp only [Pt.U, Pt.locs, Pt.cells, Pt.slots] at X' e1 e2 h1 h2 h3 st
  subst h1; subst h2; subst h3
  exact ⟨v, (T.setVm vm₁).calling g' mk (Value.ref b :: As).toArray, t, U', L, hT, X', hL, e1, e2, hq, st⟩
variable {pc : Nat} {ls : Array Slot} {st0 : List Value} {D : va_G} {A : Nat → Prop} {tys : List (ClassId × FieldType)} {S : Type} {W1 : S → va_W} {r : Int32} {H0 : Heap} {W0 : va_W} {T : u_T} {N : Nat} {fs : List Value}
theorem my_aVi (S0 : CallFix p m c cc nL s args Ts own) (hM : Met l y ws rm (va_Pc (.ref b :: As) (my_Pre D tys W0 H.size)) (my_Qi D tys r W1 (va_A W0 H.size)) mc ms (va_A W0 H.size))
    (cw : CallW R s args own C index y bytes maxL ret ws rm rm.cells rm.slots n) (hK : va_K D vwCl tys s) (hP : va_P D vwCl W0 H) (hD : va_D A W0) (hS : va_S A H0 H locs) (hA : ∀ q, H0.size ≤ q → A q)
    (q0 ci : Nat) (he : W0[q0]? = some (b, .inr (ci, fs))) (hc : vwCl[ci]? = some (C, T, N)) (hn : As.length = n) (hsize : ls.size = nL) (hst : st0 = As.reverse ++ .ref b :: rest) (hW : (rest.map fun v => v.category).sum ≤ 8) (hdg : decode cc pc = .ok (.invokevirtual index, 3)) (hf : cells + rm.cells ≤ R.cells ∧ slots + rm.slots ≤ R.slots)
    (kk : ∀ (u : S) (H1 : Heap) (locs1 : List Loc), va_P D vwCl (W1 u) H1 → va_D A (W1 u) → va_S A H0 H1 locs1 → W p l e R s m args below meth c H1 locs1 (cells + mc) (slots + ms) Q (F0 m (pc + 3) ls (.int r :: rest))) : W p l e R s m args below meth c H locs cells slots Q (F0 m pc ls st0) := by
  have hF := my_F hD hS hA
  refine va_calli (my_runV (As := As) (rest := rest) S0 hM cw ⟨my_blind, va_recv hK hP hc he, fun U hU hW => ⟨rfl, by rw [hU], by rw [hU]; exact hP, va_K.moved hW.alike hK, hD.weaken (fun _ _ _ _ => trivial)⟩⟩ rfl hn hsize hst (lv_room hW) hdg hf) hS (fun q _ h => hF q h) hF (fun r' u t H1 locs1 ht hvm hw hB hz1 hk1 hS1 => ?_)
  obtain ⟨hP1, hK1, hD1⟩ := hB
  rw [ht] at hP1
  rw [show r' = r from hw]
  exact kk u H1 locs1 hP1 (hD1.weaken (fun k q _ h => hF q.1 h)) hS1
theorem my_aVv (S0 : CallFix p m c cc nL s args Ts own) (hM : Met l y ws rm (va_Pc (.ref b :: As) (my_Pre D tys W0 H.size)) (my_Qv D tys W1 (va_A W0 H.size)) mc ms (va_A W0 H.size))
    (cw : CallW R s args own C index y bytes maxL ret ws rm rm.cells rm.slots n) (hK : va_K D vwCl tys s) (hP : va_P D vwCl W0 H) (hD : va_D A W0) (hS : va_S A H0 H locs) (hA : ∀ q, H0.size ≤ q → A q)
    (q0 ci : Nat) (he : W0[q0]? = some (b, .inr (ci, fs))) (hc : vwCl[ci]? = some (C, T, N)) (hn : As.length = n) (hsize : ls.size = nL) (hst : st0 = As.reverse ++ .ref b :: rest) (hW : (rest.map fun v => v.category).sum ≤ 8) (hdg : decode cc pc = .ok (.invokevirtual index, 3)) (hf : cells + rm.cells ≤ R.cells ∧ slots + rm.slots ≤ R.slots)
    (kk : ∀ (u : S) (H1 : Heap) (locs1 : List Loc), va_P D vwCl (W1 u) H1 → va_D A (W1 u) → va_S A H0 H1 locs1 → W p l e R s m args below meth c H1 locs1 (cells + mc) (slots + ms) Q (F0 m (pc + 3) ls rest)) : W p l e R s m args below meth c H locs cells slots Q (F0 m pc ls st0) := by
  have hF := my_F hD hS hA
  refine va_callv (my_runV (As := As) (rest := rest) S0 hM cw ⟨my_blind, va_recv hK hP hc he, fun U hU hW => ⟨rfl, by rw [hU], by rw [hU]; exact hP, va_K.moved hW.alike hK, hD.weaken (fun _ _ _ _ => trivial)⟩⟩ rfl hn hsize hst (lv_room hW) hdg hf) hS (fun q _ h => hF q h) hF (fun u t H1 locs1 ht hvm hw hB hz1 hk1 hS1 => ?_)
  obtain ⟨hP1, hK1, hD1⟩ := hB
  rw [ht] at hP1
  exact kk u H1 locs1 hP1 (hD1.weaken (fun k q _ h => hF q.1 h)) hS1
theorem my_cSv (S0 : CallFix p m c cc nL s args Ts own) (hM : Met l y ws rm (va_Pc As (my_Pre D tys W0 H.size)) (my_Qv D tys W1 (va_A W0 H.size)) mc ms (va_A W0 H.size))
    (cw : CallB R s args own index y bytes maxL ret ws rm mc ms n ∧ (Cond.static y).before args s = true) (hK : va_K D vwCl tys s) (hP : va_P D vwCl W0 H) (hD : va_D A W0) (hS : va_S A H0 H locs) (hA : ∀ q, H0.size ≤ q → A q)
    (hn : As.length = n) (hsize : ls.size = nL) (hst : st0 = As.reverse ++ rest) (hW : (rest.map fun v => v.category).sum ≤ 8) (hdg : decode cc pc = .ok (.invokestatic index, 3)) (hf : cells + mc ≤ R.cells ∧ slots + ms ≤ R.slots)
    (kk : ∀ (u : S) (H1 : Heap) (locs1 : List Loc), va_P D vwCl (W1 u) H1 → va_D A (W1 u) → va_S A H0 H1 locs1 → W p l e R s m args below meth c H1 locs1 (cells + mc) (slots + ms) Q (F0 m (pc + 3) ls rest)) : W p l e R s m args below meth c H locs cells slots Q (F0 m pc ls st0) := by
  have hF := my_F hD hS hA
  refine va_callv (va_runS (As := As) (rest := rest) S0 hM cw ⟨my_blind, fun U hU hW => ⟨rfl, by rw [hU], by rw [hU]; exact hP, va_K.moved hW.alike hK, hD.weaken (fun _ _ _ _ => trivial)⟩⟩ rfl hn hsize hst (lv_room hW) hdg hf) hS (fun q _ h => hF q h) hF (fun u t H1 locs1 ht hvm hw hB hz1 hk1 hS1 => ?_)
  obtain ⟨hP1, hK1, hD1⟩ := hB
  rw [ht] at hP1
  exact kk u H1 locs1 hP1 (hD1.weaken (fun k q _ h => hF q.1 h)) hS1
/-- a static method with no world's change but one new cell, whose address it answers -/
theorem my_cSr {e1 : Nat → Nat × va_E} (S0 : CallFix p m c cc nL s args Ts own) (hM : Met l y ws rm (va_Pc As (my_Pre D tys W0 H.size)) (va_Qr (fun (_ : Unit) => True) (fun _ q t => va_P D vwCl (W0 ++ [e1 q]) t.heap ∧ va_K D vwCl tys t ∧ va_D (va_A W0 H.size) (W0 ++ [e1 q])) (va_A W0 H.size)) mc ms (va_A W0 H.size))
    (cw : CallB R s args own index y bytes maxL ret ws rm mc ms n ∧ (Cond.static y).before args s = true) (hK : va_K D vwCl tys s) (hP : va_P D vwCl W0 H) (hD : va_D A W0) (hS : va_S A H0 H locs) (hA : ∀ q, H0.size ≤ q → A q)
    (hn : As.length = n) (hsize : ls.size = nL) (hst : st0 = As.reverse ++ rest) (hW : (rest.map fun v => v.category).sum ≤ 8) (hdg : decode cc pc = .ok (.invokestatic index, 3)) (hf : cells + mc ≤ R.cells ∧ slots + ms ≤ R.slots)
    (kk : ∀ (q : Nat) (H1 : Heap) (locs1 : List Loc), va_P D vwCl (W0 ++ [e1 q]) H1 → va_D A (W0 ++ [e1 q]) → va_S A H0 H1 locs1 → W p l e R s m args below meth c H1 locs1 (cells + mc) (slots + ms) Q (F0 m (pc + 3) ls (.ref q :: rest))) : W p l e R s m args below meth c H locs cells slots Q (F0 m pc ls st0) := by
  have hF := my_F hD hS hA
  refine va_callr (va_runS (As := As) (rest := rest) S0 hM cw ⟨my_blind, fun U hU hW => ⟨rfl, by rw [hU], by rw [hU]; exact hP, va_K.moved hW.alike hK, hD.weaken (fun _ _ _ _ => trivial)⟩⟩ rfl hn hsize hst (lv_room hW) hdg hf) hS (fun q _ h => hF q h) hF (fun u q t H1 locs1 ht hvm hw hB hz1 hk1 hS1 => ?_)
  obtain ⟨hP1, hK1, hD1⟩ := hB
  rw [ht] at hP1
  exact kk q H1 locs1 hP1 (hD1.weaken (fun k q _ h => hF q.1 h)) hS1
end MYC
theorem same_arr {D : va_G} {tys : List (ClassId × FieldType)} {s : State} {c1 c2 : ClassId} (hK : va_K D vwCl tys s) (t1 t2 : Nat) (h1 : tys[t1]? = some (c1, .byte)) (h2 : tys[t2]? = some (c2, .byte)) : c1 = c2 := by
  have a1 := (hK.2 t1 _ h1).2
  have a2 := (hK.2 t2 _ h2).2
  have a1 : s.vm.findClass ("[" ++ (FieldType.byte).toString) = some c1 := a1
  have a2 : s.vm.findClass ("[" ++ (FieldType.byte).toString) = some c2 := a2
  exact Option.some.inj (a1.symm.trans a2)
def FitB (f : Nat → Int32) : Prop := ∀ i, fits .byte (.int (f i)) = true
theorem fitB_upd {f : Nat → Int32} (h : FitB f) (k : Nat) (x : Int32) : FitB (upd f k (vp_nar .byte x)) := by
  intro i
  by_cases e : i = k
  · rw [e, pk_us]; exact pk_fb x
  · rw [pk_un e]; exact h i
theorem fitB_cpy {f : Nat → Int32} (h : FitB f) (n : Nat) : FitB (va_cpy f (fun _ => 0) 0 0 n) := by
  intro i
  unfold va_cpy
  split
  · exact h _
  · rfl
theorem two_nI (j : Nat) : (2 : Int32) * nI j = nI (2 * j) := pk_mul 2 j
def f_bput (len : Int32) (n : Nat) (bs : Nat → Int32) (a1 : Int32) : Int32 × Nat × (Nat → Int32) :=
  if len < 0 then (len, n, bs) else
  if nI n ≤ len then (len, n, bs) else (len + 1, n, upd bs len.toNatClampNeg (vp_nar .byte a1.toInt8.toInt32))
def f_badd (len : Int32) (n : Nat) (bs : Nat → Int32) (a1 : Int32) : Int32 × Nat × (Nat → Int32) :=
  if len < nI n then f_bput len n bs a1 else
  if 32768 ≤ len then f_bput len n bs a1 else
  f_bput len (2 * len).toNatClampNeg (va_cpy bs (fun _ => 0) 0 0 n) a1
theorem bgrow {len : Int32} {n : Nat} (h1 : ¬ len < nI n) (h2 : ¬ 32768 ≤ len) (hn : n ≤ 65536) : ∃ j : Nat, n ≤ j ∧ j < 32768 ∧ len = nI j := by
  have h3 := Int32.le_iff_toInt_le.mp (Int32.not_lt.mp h1)
  rw [nI_toInt (by omega)] at h3
  have h4 := Int32.lt_iff_toInt_lt.mp (Int32.not_le.mp h2)
  have h5 : (32768 : Int32).toInt = 32768 := by decide
  rw [h5] at h4
  have h6 : ¬ len < 0 := by
    intro h
    have := Int32.lt_iff_toInt_lt.mp h
    have h7 : (0 : Int32).toInt = 0 := by decide
    omega
  obtain ⟨j, hj, rfl⟩ := nI_of h6
  rw [nI_toInt hj] at h3 h4
  exact ⟨j, by omega, by omega, rfl⟩
theorem m_bput {len : Int32} {n : Nat} {bs : Nat → Int32} {a1 : Int32} {res : Int32 × Nat × (Nat → Int32)} (hf : f_bput len n bs a1 = res) (h2 : FitB bs) : res.2.1 = n ∧ FitB res.2.2 := by
  unfold f_bput at hf
  split at hf
  · subst hf; exact ⟨rfl, h2⟩
  · split at hf
    · subst hf; exact ⟨rfl, h2⟩
    · subst hf; exact ⟨rfl, fitB_upd h2 _ _⟩
theorem m_badd {len : Int32} {n : Nat} {bs : Nat → Int32} {a1 : Int32} {res : Int32 × Nat × (Nat → Int32)} (hf : f_badd len n bs a1 = res) (h1 : 1 ≤ n ∧ n ≤ 65536) (h2 : FitB bs) : n ≤ res.2.1 ∧ (1 ≤ res.2.1 ∧ res.2.1 ≤ 65536) ∧ FitB res.2.2 := by
  unfold f_badd at hf
  split at hf
  · obtain ⟨e, f⟩ := m_bput hf h2
    exact ⟨by omega, by omega, f⟩
  · rename_i c1
    split at hf
    · obtain ⟨e, f⟩ := m_bput hf h2
      exact ⟨by omega, by omega, f⟩
    · rename_i c2
      obtain ⟨j, a, b, rfl⟩ := bgrow c1 c2 h1.2
      obtain ⟨e, f⟩ := m_bput hf (fitB_cpy h2 n)
      rw [two_nI, nI_clamp (by omega)] at e
      exact ⟨by omega, by omega, f⟩
