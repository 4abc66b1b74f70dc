theorem inlX0 : ∀ w ∈ wsX00, w ∈ wsL_law := fun _ h => List.mem_append_left _ (List.mem_append_left _ (List.mem_append_right _ h))
theorem inlX1 : ∀ w ∈ wsX10, w ∈ wsL_law := fun _ h => List.mem_append_left _ (List.mem_append_left _ (List.mem_append_left _ (List.mem_append_right _ h)))
theorem inlX2 : ∀ w ∈ wsX20, w ∈ wsL_law := fun _ h => List.mem_append_left _ (List.mem_append_left _ (List.mem_append_left _ (List.mem_append_left _ (List.mem_append_right _ h))))
theorem inlX3 : ∀ w ∈ wsX30, w ∈ wsL_law := fun _ h => List.mem_append_left _ (List.mem_append_left _ (List.mem_append_left _ (List.mem_append_left _ (List.mem_append_left _ (List.mem_append_left _ (List.mem_append_right _ h))))))
theorem inlX4 : ∀ w ∈ wsX40, w ∈ wsL_law := fun _ h => List.mem_append_left _ (List.mem_append_left _ (List.mem_append_left _ (List.mem_append_left _ (List.mem_append_left _ (List.mem_append_right _ h)))))
theorem inlX5 : ∀ w ∈ wsX50, w ∈ wsL_law := fun _ h => List.mem_append_left _ (List.mem_append_left _ (List.mem_append_left _ (List.mem_append_left _ (List.mem_append_left _ (List.mem_append_left _ (List.mem_append_left _ (List.mem_append_left _ (List.mem_append_right _ h))))))))
theorem inlX6 : ∀ w ∈ wsX60, w ∈ wsL_law := fun _ h => List.mem_append_left _ (List.mem_append_left _ (List.mem_append_left _ (List.mem_append_left _ (List.mem_append_left _ (List.mem_append_left _ (List.mem_append_left _ (List.mem_append_right _ h)))))))
theorem inlJx00060 : ∀ w ∈ wsJx000600, w ∈ wsL_law := fun _ h => List.mem_append_left _ (List.mem_append_right _ h)
theorem eq_ev {args : Array Value} {s : State} {t : Term} {z : Int32} (h : (Cond.eq t (.int z)).before args s = true) : t.eval args s none [] s = some (.int z) := by
  cases hv : t.eval args s none [] s with
  | none => simp [Cond.before, Cond.holds, Cond.value, hv] at h
  | some w =>
    have hz : (Term.int z).eval args s none [] s = some (.int z) := rfl
    simp only [Cond.before, Cond.holds, Cond.value, hv, hz] at h
    cases w <;> simp_all
theorem ex_ev {args : Array Value} {s : State} {t : Term} {C : String} (h : (Cond.exactly t C).before args s = true) : ∃ a : Nat, t.eval args s none [] s = some (.ref a) := by
  cases hv : t.eval args s none [] s with
  | none => simp [Cond.before, Cond.holds, Cond.value, hv] at h
  | some w =>
    simp only [Cond.before, Cond.holds, Cond.value, hv] at h
    cases hc : s.vm.findClass C <;> cases w <;> simp_all
theorem arr_known {args : Array Value} {s : State} {ty : FieldType} (h : (Cond.arrayClass ty).before args s = true) : ∃ cA : ClassId, ArrOfT s cA ty ∧ s.vm.findClass ("[" ++ ty.toString) = some cA := by
  obtain ⟨c, k, comp, h1, h2, h3⟩ := Cond.arrayClass_spec h
  exact ⟨c, fun n z => ⟨(fun k' h => by cases h), k, h2, comp, h3⟩, h1⟩
theorem X_at {b L : Nat} {xs : Nat → Int32} {s U : State} {A : Nat → Prop} {H : Heap} {locs : List Loc} (hX : va_X b L xs s s.heap) (hS : va_S A s.heap H locs) (hbA : ¬ A b) (hvm : s.vm.Alike U.vm) (hU : U.heap = H) : va_X b L xs U U.heap := by
  obtain ⟨scr, h1, h2, h3, h4, h5⟩ := hX
  exact ⟨scr, by rw [hU, hS.2.1 b (Array.getElem?_eq_some_iff.mp h1).1 hbA]; exact h1, State.isArrayOf_alike hvm h2, h3, h4, h5⟩
set_option maxRecDepth 100000 in
/-- a word of the script, or 0 -/
theorem c_L_cell (l : Launch) (b L : Nat) (xs : Nat → Int32) (k : Nat) (hk : k < 2) (hL : L < 100000) : Met l yL_cell wsL_cell ({ frames := 0, cells := 0, slots := 0, locals := 0 }) (va_Pc [.ref b, .int (nI k)] (fun U => va_X b L xs U U.heap)) (va_Qi (fun r (_ : Unit) => r = if k < L then xs k else 0) (fun _ _ => True) (fun _ => False)) 0 0 (fun _ => False) := by
  refine Met.ofW (cc := cL_cell) (maxL := 2) (ret := some .int) (by decide) rfl ?_
  intro p e s m args below meth c s₁ B hml hv
  obtain ⟨rfl, hX⟩ := hv
  have hl := lv_entry ([.ref b, .int (nI k)]) (n := 2) (Nat.le_of_ble_eq_true rfl)
  rw [lg_entry_eq]
  generalize (lg_sl ([.ref b, .int (nI k)]) ++ List.replicate (2 - (lg_sl ([.ref b, .int (nI k)])).length) Slot.unset).toArray = ls at hl ⊢
  have hl : lv_has ls 2 [(0, .ref b), (1, .int (nI k))] := hl
  have hx := B.exec
  have hb := B.bytes
  have hr := B.returns
  have hlocks := B.notSynchronized
  have hbl : b < s.heap.size := by obtain ⟨scr, h1, -⟩ := hX; exact (Array.getElem?_eq_some_iff.mp h1).1
  have hS : va_S (fun _ => False) s.heap s.heap [] := va_S.rf
  refine lv_iload_n hx hb dL_cell_0 rfl (lv_at hl 1 rfl) ?_
  refine lv_aload_n hx hb dL_cell_1 rfl (lv_at hl 0 rfl) ?_
  refine va_slen hx hb hX hbl (fun h => h) hS dL_cell_2 ?_
  refine lv_icmp_ge (tgt := 12) hx hb dL_cell_3 (by decide) (fun c9 => ?_) (fun c9 => ?_)
  · have h9 : ¬ k < L := by
      have := (nI_leI (a := L) (b := k) (by omega) (by omega)).mp c9
      omega
    refine lv_iconst (v := 0) hx hb dL_cell_12 (by decide) ?_
    exact W.iret hx hb hr (fun t ht hW => ⟨⟨0, (), rfl, by rw [if_neg h9], trivial⟩, hS.F ht⟩) hS.2.2 dL_cell_13 hlocks
  · have h9 : k < L := by
      rcases Nat.lt_or_ge k L with h | h
      · exact h
      · exact absurd ((nI_leI (a := L) (b := k) (by omega) (by omega)).mpr h) c9
    refine lv_aload_n hx hb dL_cell_6 rfl (lv_at hl 0 rfl) ?_
    refine lv_iload_n hx hb dL_cell_7 rfl (lv_at hl 1 rfl) ?_
    refine la_sld (j := k) hx hb hX hbl (fun h => h) hS h9 (by omega) rfl dL_cell_8 ?_
    refine lv_goto (tgt := 13) hx hb dL_cell_9 (by decide) ?_
    exact W.iret hx hb hr (fun t ht hW => ⟨⟨xs k, (), rfl, by rw [if_pos h9], trivial⟩, hS.F ht⟩) hS.2.2 dL_cell_13 hlocks
section LAS
variable {p : Program} {l : Launch} {e : Env} {R : Room} {s : State} {m : MethodId} {args : Array Value} {below : List Frame} {meth : Method} {c : Code} {H H0 : Heap} {locs : List Loc} {cells slots : Nat} {Q : State → Prop}
variable {y : MethodName} {bytes cc : ByteArray} {maxL nL n index : Nat} {ret : Option FieldType} {ws : List Cond} {rm : Room} {Ts : List Cond} {own : String} {As rest : List Value} {pc : Nat} {ls : Array Slot} {st0 : List Value} {D : va_G} {A : Nat → Prop} {r : Int32} {W0 : va_W} {Pre : State → Prop}
theorem la_S (S0 : CallFix p m c cc nL s args Ts own) (hM : Met l y ws rm (va_Pc As Pre) (va_Qi (fun r' (_ : Unit) => r' = r) (fun _ _ => True) (fun _ => False)) 0 0 (fun _ => False)) (hbl : FrameBlind (va_Pc As Pre)) (hPre : ∀ U : State, U.heap = H → s.WarmedH U.vm → Pre U)
    (cw : CallB R s args own index y bytes maxL ret ws rm 0 0 n ∧ (Cond.static y).before args s = true) (hP : va_P D vwCl W0 H) (hS : va_S A H0 H locs)
    (hn : As.length = n) (hsize : ls.size = nL) (hst : st0 = As.reverse ++ rest) (hW : (rest.map fun v => v.category).sum ≤ 8) (hdg : decode cc pc = .ok (.invokestatic index, 3)) (hf : cells + 0 ≤ R.cells ∧ slots + 0 ≤ R.slots)
    (kk : ∀ (H1 : Heap) (locs1 : List Loc), va_P D vwCl W0 H1 → va_S A H0 H1 locs1 → W p l e R s m args below meth c H1 locs1 (cells + 0) (slots + 0) Q (F0 m (pc + 3) ls (.int r :: rest))) : W p l e R s m args below meth c H locs cells slots Q (F0 m pc ls st0) := by
  refine va_calli (va_runS (As := As) (rest := rest) S0 hM cw ⟨hbl, fun U hU hW => ⟨rfl, hPre U hU hW⟩⟩ rfl hn hsize hst (lv_room hW) hdg hf) hS (fun q _ h => h.elim) (fun q h => h.elim) (fun r' u t H1 locs1 ht hvm hw hB hz1 hk1 hS1 => ?_)
  rw [show r' = r from hw]
  exact kk H1 locs1 (hP.kept (fun k q hq => hk1 q.1 ((hP k q hq).lt) (fun h => h))) hS1
theorem X_blind {b L : Nat} {xs : Nat → Int32} {av : List Value} : FrameBlind (va_Pc av (fun U => va_X b L xs U U.heap)) := fun a U g mk q => by
  obtain ⟨q0, scr, h1, h2, h3, h4, h5⟩ := q
  exact ⟨q0, scr, h1, State.isArrayOf_alike (Vm.Alike.refl U.vm) h2, h3, h4, h5⟩
end LAS
set_option maxRecDepth 100000 in
set_option maxHeartbeats 1000000 in
theorem start_env {s : State} {b : Nat} (hts : ∀ w ∈ lw_tbl, w.before #[Value.ref b] s = true) (hgv : (Jvm.Cond.and given_1 narrow_1).before #[Value.ref b] s = true) :
    ∃ tk sv1 sv2 : Nat, kZ tk (fun q : Nat => s.heap.size ≤ q) s s.heap ∧ kT 105 "no such byte waits to be sent" sv1 (fun q : Nat => s.heap.size ≤ q) s s.heap ∧ kT 129 "no such address in the screen in use" sv2 (fun q : Nat => s.heap.size ≤ q) s s.heap ∧ E_X5_init s := by
  have hs := flat_of_before _ hgv
  have hA : ∀ a : Nat, a < s.heap.size → ¬ (fun q : Nat => s.heap.size ≤ q) a := fun a h => Nat.not_le.mpr h
  have hto : ∀ w ∈ thrO, w.before #[] s = true := fun w hw => by
    have h1 := List.all_eq_true.mp thrO_ok w hw
    have h2 := List.all_eq_true.mp thrO_in w hw
    simp only [Bool.and_eq_true] at h1
    have h3 := Cond.onTables_vm (A := #[Value.ref b]) (A' := #[]) (U := s) (U' := s) s.vm w h1.2
    rw [State.setVm_self] at h3
    rw [← h3]
    exact hts w (of_decide_eq_true h2)
  obtain ⟨tk, ht, hT⟩ := va_Tof (args := #[Value.ref b]) (s := s) (tm := .static "BlockScreen$Keyboard" "PROGRAM_KEYS_SEND" "[I") (ty := .int) (N := 12) (f := fun j => .int (pkeys j)) (A := (fun q : Nat => s.heap.size ≤ q)) (by decide) (hs _ (by decide +kernel)) (eq_ev (hs (.eq (.length (.static "BlockScreen$Keyboard" "PROGRAM_KEYS_SEND" "[I")) (.int 12)) (by decide +kernel)))
    (fun j hj => by
      rcases (show j = 0 ∨ j = 1 ∨ j = 2 ∨ j = 3 ∨ j = 4 ∨ j = 5 ∨ j = 6 ∨ j = 7 ∨ j = 8 ∨ j = 9 ∨ j = 10 ∨ j = 11 from by omega) with rfl | rfl | rfl | rfl | rfl | rfl | rfl | rfl | rfl | rfl | rfl | rfl
      · exact eq_ev (hs (.eq (.elem (.static "BlockScreen$Keyboard" "PROGRAM_KEYS_SEND" "[I") (.int 0)) (.int 241)) (by decide +kernel))
      · exact eq_ev (hs (.eq (.elem (.static "BlockScreen$Keyboard" "PROGRAM_KEYS_SEND" "[I") (.int 1)) (.int 242)) (by decide +kernel))
      · exact eq_ev (hs (.eq (.elem (.static "BlockScreen$Keyboard" "PROGRAM_KEYS_SEND" "[I") (.int 2)) (.int 243)) (by decide +kernel))
      · exact eq_ev (hs (.eq (.elem (.static "BlockScreen$Keyboard" "PROGRAM_KEYS_SEND" "[I") (.int 3)) (.int 244)) (by decide +kernel))
      · exact eq_ev (hs (.eq (.elem (.static "BlockScreen$Keyboard" "PROGRAM_KEYS_SEND" "[I") (.int 4)) (.int 245)) (by decide +kernel))
      · exact eq_ev (hs (.eq (.elem (.static "BlockScreen$Keyboard" "PROGRAM_KEYS_SEND" "[I") (.int 5)) (.int 246)) (by decide +kernel))
      · exact eq_ev (hs (.eq (.elem (.static "BlockScreen$Keyboard" "PROGRAM_KEYS_SEND" "[I") (.int 6)) (.int 247)) (by decide +kernel))
      · exact eq_ev (hs (.eq (.elem (.static "BlockScreen$Keyboard" "PROGRAM_KEYS_SEND" "[I") (.int 7)) (.int 248)) (by decide +kernel))
      · exact eq_ev (hs (.eq (.elem (.static "BlockScreen$Keyboard" "PROGRAM_KEYS_SEND" "[I") (.int 8)) (.int 249)) (by decide +kernel))
      · exact eq_ev (hs (.eq (.elem (.static "BlockScreen$Keyboard" "PROGRAM_KEYS_SEND" "[I") (.int 9)) (.int 122)) (by decide +kernel))
      · exact eq_ev (hs (.eq (.elem (.static "BlockScreen$Keyboard" "PROGRAM_KEYS_SEND" "[I") (.int 10)) (.int 123)) (by decide +kernel))
      · exact eq_ev (hs (.eq (.elem (.static "BlockScreen$Keyboard" "PROGRAM_KEYS_SEND" "[I") (.int 11)) (.int 124)) (by decide +kernel))) hA
  have hz1 := zS.of (A := (fun q : Nat => s.heap.size ≤ q)) (hts (.laysStatic Bundle.tN "UNASSIGNED_STACK" Bundle.steD) (by decide +kernel)) (hs (.isRef (.static Bundle.tN "UNASSIGNED_STACK" Bundle.steD)) (by decide +kernel)) hA
  have hz2 := zS.of (A := (fun q : Nat => s.heap.size ≤ q)) (hts (.laysStatic Bundle.tN "SUPPRESSED_SENTINEL" Bundle.listD) (by decide +kernel)) (hs (.isRef (.static Bundle.tN "SUPPRESSED_SENTINEL" Bundle.listD)) (by decide +kernel)) hA
  obtain ⟨a1, ha1⟩ := ex_ev (hs (.exactly (.string "BlockScreen" 105) "java/lang/String") (by decide +kernel))
  obtain ⟨a2, ha2⟩ := ex_ev (hs (.exactly (.string "BlockScreen" 129) "java/lang/String") (by decide +kernel))
  refine ⟨tk, a1, a2, ⟨va_Zref (hts (.laysStatic "BlockScreen$Keyboard" "PROGRAM_KEYS_SEND" "[I") (by decide +kernel)) (hts (.initialized "BlockScreen$Keyboard") (by decide +kernel)) ht hA, hT⟩, ⟨hz1, hz2, vk_R.of (hts (.stringRef "BlockScreen" 105 "no such byte waits to be sent") (by decide +kernel)) ha1, hto⟩, ⟨hz1, hz2, vk_R.of (hts (.stringRef "BlockScreen" 129 "no such address in the screen in use") (by decide +kernel)) ha2, hto⟩, ?_⟩
  exact ⟨va_Nw.of rfl (hts (.methodLinkNest RX4 17 yX0_init "BlockScreen") (by decide +kernel)), va_Nw.of rfl (hts (.methodLinkNest RX1 25 yX0_init "BlockScreen") (by decide +kernel))⟩
