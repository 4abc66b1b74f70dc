/-! The law's world: the class's cells, the reference's, the row for an answer; calls over one of them. -/
def dj (X Y : va_W) : Prop := ∀ (i j : Nat) (p q : Nat × va_E), X[i]? = some p → Y[j]? = some q → p.1 ≠ q.1
theorem dj.symm {X Y : va_W} (h : dj X Y) : dj Y X := fun i j p q h1 h2 e => h j i q p h2 h1 e.symm
theorem app_l {X Y : va_W} {k : Nat} {q : Nat × va_E} (h : X[k]? = some q) : (X ++ Y)[k]? = some q := by
  rw [List.getElem?_append_left (List.getElem?_eq_some_iff.mp h).1]; exact h
theorem app_r {X Y : va_W} {k : Nat} {q : Nat × va_E} (h : Y[k]? = some q) : (X ++ Y)[X.length + k]? = some q := by
  rw [List.getElem?_append_right (Nat.le_add_right _ _), Nat.add_sub_cancel_left]; exact h
theorem P_split {D : va_G} {cl : List vw_C} {X Y : va_W} {H : Heap} (h : va_P D cl (X ++ Y) H) : va_P D cl X H ∧ va_P D cl Y H := ⟨fun k q hk => h k q (app_l hk), fun k q hk => h _ q (app_r hk)⟩
theorem D_split {A : Nat → Prop} {X Y : va_W} (h : va_D A (X ++ Y)) : va_D A X ∧ va_D A Y ∧ dj X Y := by
  refine ⟨⟨fun i j p q h1 h2 e => h.1 i j p q (app_l h1) (app_l h2) e, fun k q hk => h.2 k q (app_l hk)⟩, ⟨fun i j p q h1 h2 e => ?_, fun k q hk => h.2 _ q (app_r hk)⟩, fun i j p q h1 h2 e => ?_⟩
  · have := h.1 _ _ p q (app_r (X := X) h1) (app_r (X := X) h2) e
    omega
  · have h3 := h.1 i _ p q (app_l h1) (app_r (X := X) h2) e
    have h4 := (List.getElem?_eq_some_iff.mp h1).1
    omega
def L3 (D : va_G) (A : Nat → Prop) (X M O : va_W) (H : Heap) : Prop := (va_P D vwCl X H ∧ va_P D vwCl M H ∧ va_P D vwCl O H) ∧ (va_D A X ∧ va_D A M ∧ va_D A O) ∧ (dj X M ∧ dj X O ∧ dj M O)
theorem L3.rot {D : va_G} {A : Nat → Prop} {X M O : va_W} {H : Heap} (h : L3 D A X M O H) : L3 D A M X O H := ⟨⟨h.1.2.1, h.1.1, h.1.2.2⟩, ⟨h.2.1.2.1, h.2.1.1, h.2.1.2.2⟩, ⟨h.2.2.1.symm, h.2.2.2.2, h.2.2.2.1⟩⟩
theorem L3.rotO {D : va_G} {A : Nat → Prop} {X M O : va_W} {H : Heap} (h : L3 D A X M O H) : L3 D A X O M H := ⟨⟨h.1.1, h.1.2.2, h.1.2.1⟩, ⟨h.2.1.1, h.2.1.2.2, h.2.1.2.1⟩, ⟨h.2.2.2.1, h.2.2.1, h.2.2.2.2.symm⟩⟩
theorem dj_step {A : Nat → Prop} {X X1 M : va_W} {n : Nat} (h : dj X M) (hM : ∀ (k : Nat) (q : Nat × va_E), M[k]? = some q → q.1 < n) (hD : va_D (va_A X n) X1) : dj X1 M := fun i j p q h1 h2 e => by
  rcases hD.2 i p h1 with ⟨k, e0, h3⟩ | h3
  · exact h k j (p.1, e0) q h3 h2 e
  · have := hM j q h2
    have h4 : n ≤ q.1 := by rw [← e]; exact h3
    omega
theorem P_step {D : va_G} {X M : va_W} {H H1 : Heap} (h : dj X M) (hM : va_P D vwCl M H) (hk : ∀ q : Nat, q < H.size → ¬ va_A X H.size q → H1[q]? = H[q]?) : va_P D vwCl M H1 := hM.kept fun k q hq => hk q.1 ((hM k q hq).lt) (fun ha => by
  rcases ha with ⟨k', e0, h3⟩ | h3
  · exact h k' k (q.1, e0) q h3 hq rfl
  · have := (hM k q hq).lt
    omega)
theorem L3.step {D : va_G} {A : Nat → Prop} {X X1 M O : va_W} {H H1 : Heap} (h : L3 D A X M O H) (hk : ∀ q : Nat, q < H.size → ¬ va_A X H.size q → H1[q]? = H[q]?) (hP : va_P D vwCl X1 H1) (hD : va_D (va_A X H.size) X1) (hF : ∀ q, va_A X H.size q → A q) : L3 D A X1 M O H1 :=
  ⟨⟨hP, P_step h.2.2.1 h.1.2.1 hk, P_step h.2.2.2.1 h.1.2.2 hk⟩, ⟨hD.weaken (fun _ q _ ha => hF q.1 ha), h.2.1.2.1, h.2.1.2.2⟩, ⟨dj_step (A := A) h.2.2.1 (fun k q hq => (h.1.2.1 k q hq).lt) hD, dj_step (A := A) h.2.2.2.1 (fun k q hq => (h.1.2.2 k q hq).lt) hD, h.2.2.2.2⟩⟩
section LAW
variable {p : Program} {l : Launch} {e : Env} {R : Room} {s : State} {m : MethodId} {args : Array Value} {below : List Frame} {meth : Method} {c : Code} {H H0 : Heap} {locs : List Loc} {cells slots : Nat} {Q : State → Prop}
variable {y : MethodName} {bytes cc : ByteArray} {maxL nL mc ms n index : Nat} {ret : Option FieldType} {ws : List Cond} {rm : Room} {Ts : List Cond} {own C : String} {b : Addr} {As rest : List Value}
variable {pc : Nat} {ls : Array Slot} {st0 : List Value} {D : va_G} {A : Nat → Prop} {tys : List (ClassId × FieldType)} {S : Type} {W1 : S → va_W} {r : Int32} {X M O : va_W} {T : u_T} {N : Nat} {fs : List Value} {Pre : State → Prop} {tysc : List (ClassId × FieldType)}
/-- a call over the first of the three -/
theorem la_V (S0 : CallFix p m c cc nL s args Ts own) (hM : Met l y ws rm (va_Pc (.ref b :: As) Pre) (my_Qi D tysc r W1 (va_A X H.size)) mc ms (va_A X H.size)) (hbl : FrameBlind (va_Pc (.ref b :: As) Pre)) (hPre : ∀ U : State, U.heap = H → s.WarmedH U.vm → Pre U)
    (cw : CallW R s args own C index y bytes maxL ret ws rm rm.cells rm.slots n) (hK : va_K D vwCl tys s) (hL : L3 D A X M O H) (hS : va_S A H0 H locs) (hA : ∀ q, H0.size ≤ q → A q)
    (q0 ci : Nat) (he : X[q0]? = some (b, .inr (ci, fs))) (hc : vwCl[ci]? = some (C, T, N)) (hn : As.length = n) (hsize : ls.size = nL) (hst : st0 = As.reverse ++ .ref b :: rest) (hW : (rest.map fun v => v.category).sum ≤ 8) (hdg : decode cc pc = .ok (.invokevirtual index, 3)) (hf : cells + rm.cells ≤ R.cells ∧ slots + rm.slots ≤ R.slots)
    (kk : ∀ (u : S) (H1 : Heap) (locs1 : List Loc), L3 D A (W1 u) M O H1 → va_S A H0 H1 locs1 → W p l e R s m args below meth c H1 locs1 (cells + mc) (slots + ms) Q (F0 m (pc + 3) ls (.int r :: rest))) : W p l e R s m args below meth c H locs cells slots Q (F0 m pc ls st0) := by
  have hF := my_F hL.2.1.1 hS hA
  refine va_calli (my_runV (As := As) (rest := rest) S0 hM cw ⟨hbl, va_recv hK hL.1.1 hc he, fun U hU hW => ⟨rfl, hPre U hU hW⟩⟩ rfl hn hsize hst (lv_room hW) hdg hf) hS (fun q _ h => hF q h) hF (fun r' u t H1 locs1 ht hvm hw hB hz1 hk1 hS1 => ?_)
  obtain ⟨hP1, hK1, hD1⟩ := hB
  rw [ht] at hP1
  rw [show r' = r from hw]
  exact kk u H1 locs1 (hL.step hk1 hP1 hD1 hF) hS1
/-- the script's j-th int -/
theorem la_sld {L j : Nat} {xs : Nat → Int32} {ix : Int32} (hexec : p.tables.exec = Jvm.exec) (hb : c.code = cc) (hX : va_X b L xs s H0) (hbl : b < H0.size) (hbA : ¬ A b) (hS : va_S A H0 H locs) (hj : j < L) (hL : L < 2147483648) (hi : ix = nI j) (hdg : decode cc pc = .ok (.iaload, 1))
    (k : W p l e R s m args below meth c H locs cells slots Q (F0 m (pc + 1) ls (.int (xs j) :: rest))) : W p l e R s m args below meth c H locs cells slots Q (F0 m pc ls (.int ix :: .ref b :: rest)) := by
  subst hi
  refine va_sld hexec hb hX hbl hbA hS (vp_in_nI hj (by omega)) hdg ?_
  rw [nI_clamp (by omega)]
  exact k
end LAW
