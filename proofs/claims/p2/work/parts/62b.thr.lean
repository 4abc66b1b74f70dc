/-! octet and cell of the class, where they throw -/
def thrN : List String := ["java/lang/IndexOutOfBoundsException", "java/lang/RuntimeException", "java/lang/Exception"]
def thrW : List Cond := (thr_tab RX5 107 RJx00060 thrN).filter goodWord
def thrO : List Cond := (thr_tab RX5 107 RJx00060 thrN).filter (fun w => !goodWord w)
theorem thrO_ok : thrO.all (fun w => w.keepsFace && w.onTables) = true := by decide +kernel
theorem face_at {s U : State} {args a' : Array Value} {w : Cond} (hW : s.WarmedH U.vm) (h1 : w.keepsFace = true) (h2 : w.onTables = true) (h : w.before args s = true) : w.before a' U = true := by
  have h3 := Cond.before_shiftedFace (State.Shifted.of_warmed hW) w h1 h
  rw [Cond.onTables_vm (A := args) (A' := a') (U := s) (U' := U) U.vm w h2, State.setVm_self] at h3
  exact h3
theorem thrO_at {s U : State} {a' : Array Value} (hW : s.WarmedH U.vm) (h : ∀ w ∈ thrO, w.before #[] s = true) : ∀ w ∈ thrO, w.before a' U = true := fun w hw => by
  have h1 := List.all_eq_true.mp thrO_ok w hw
  simp only [Bool.and_eq_true] at h1
  exact face_at hW h1.1 h1.2 (h w hw)
theorem thr_two {s : State} {args : Array Value} (h1 : ∀ w ∈ thrW, w.before args s = true) (h2 : ∀ w ∈ thrO, w.before #[] s = true) : ∀ w ∈ thr_tab RX5 107 RJx00060 thrN, w.before args s = true := fun w hw => by
  cases hg : goodWord w with
  | true => exact h1 w (List.mem_filter.mpr ⟨hw, hg⟩)
  | false =>
    have hm : w ∈ thrO := List.mem_filter.mpr ⟨hw, by simp [hg]⟩
    have h4 := List.all_eq_true.mp thrO_ok w hm
    simp only [Bool.and_eq_true] at h4
    have h5 := h2 w hm
    have h3 := Cond.onTables_vm (A := #[]) (A' := args) (U := s) (U' := s) s.vm w h4.2
    rw [State.setVm_self] at h3
    rw [← h3]
    exact h5
def kT (k : Nat) (tx : String) (sa : Nat) (A : Nat → Prop) (U : State) (H : Heap) : Prop := zS Bundle.tN "UNASSIGNED_STACK" Bundle.steD A U H ∧ zS Bundle.tN "SUPPRESSED_SENTINEL" Bundle.listD A U H ∧ vk_R RX5 k tx sa U ∧ ∀ w ∈ thrO, w.before #[] U = true
theorem kT.step {k sa : Nat} {tx : String} {A B : Nat → Prop} {s U : State} {H : Heap} {locs : List Loc} (hZ : kT k tx sa A s s.heap) (hS : va_S A s.heap H locs) (hF : ∀ q, B q → A q) (hW : s.WarmedH U.vm) (hU : U.heap = H) : kT k tx sa B U U.heap := by
  rw [hU]
  exact ⟨((hZ.1.kept (fun a h1 h2 => hS.2.1 a h1 h2)).moved hW.alike).narrow hF, ((hZ.2.1.kept (fun a h1 h2 => hS.2.1 a h1 h2)).moved hW.alike).narrow hF, hZ.2.2.1.warm hW, thrO_at hW hZ.2.2.2⟩
abbrev my_PreT (k : Nat) (tx : String) (sa : Nat) (D : va_G) (tys : List (ClassId × FieldType)) (W0 : va_W) (sz : Nat) : State → Prop := fun U => my_Pre D tys W0 sz U ∧ kT k tx sa (va_A W0 sz) U U.heap
theorem my_blindT {k sa : Nat} {tx : String} {av : List Value} {D : va_G} {tys : List (ClassId × FieldType)} {W0 : va_W} {sz : Nat} : FrameBlind (va_Pc av (my_PreT k tx sa D tys W0 sz)) := fun a U g mk q => by
  obtain ⟨q0, ⟨q1, qP, qK, qD⟩, qZ⟩ := q
  exact ⟨q0, ⟨q1, qP, va_K.moved (u := U) (U := U.calling g mk a) (Vm.Alike.refl U.vm) qK, qD⟩, ⟨zS.moved (u := U) (U := U.calling g mk a) (Vm.Alike.refl U.vm) qZ.1, zS.moved (u := U) (U := U.calling g mk a) (Vm.Alike.refl U.vm) qZ.2.1, vk_R.same (u := U) (U := U.calling g mk a) rfl qZ.2.2.1, fun w hw => by
    have h1 := List.all_eq_true.mp thrO_ok w hw
    simp only [Bool.and_eq_true] at h1
    have h3 := Cond.onTables_vm (A := #[]) (A' := #[]) (U := U) (U' := U.calling g mk a) U.vm w h1.2
    rw [State.setVm_self] at h3
    have h4 := qZ.2.2.2 w hw
    rw [h3] at h4
    exact h4⟩⟩
abbrev my_Qt (D : va_G) (tys : List (ClassId × FieldType)) (W0 : va_W) (A : Nat → Prop) : Array Value → State → Addr → State → Prop := fun _ st q t => (va_P D vwCl W0 t.heap ∧ va_K D vwCl tys t ∧ va_D A W0) ∧ va_F A st t ∧ ∃ ce : Cell, t.heap[q]? = some ce ∧ ce.vm = .none ∧ ce.cls = D.1 0
theorem my_enterT {k sa : Nat} {tx : String} {l : Launch} {y : MethodName} {ws ws' : List Cond} {rm : Room} {av : List Value} {D : va_G} {tys : List (ClassId × FieldType)} {W0 : va_W} {sz : Nat} {Qt : (Nat → Prop) → Array Value → State → Addr → State → Prop} {mc ms : Nat} {cc : ByteArray} {maxL : Nat} {ret : Option FieldType}
    (hy : plainName y.cls = true) (hw : ws = Cond.code y cc maxL ret :: ws') (hle : (lg_sl av).length ≤ maxL)
    (body : ∀ (p : Program) (e : Env) (s : State) (m : MethodId) (below : List Frame) (meth : Method) (c : Code) (A : Nat → Prop) (ls : Array Slot), kT k tx sa A s s.heap → p.tables.exec = Jvm.exec → c.code = cc → c.maxLocals = maxL → c.exceptionTable.toList = [] → (∀ w ∈ ws, w.before av.toArray s = true) → s.vm.findClass y.cls = some m.cls → meth.locks = false → va_P D vwCl W0 s.heap → va_K D vwCl tys s → va_D A W0 → (∀ q : Nat, s.heap.size ≤ q → A q) → lv_has ls maxL (lv_args 0 av) → W p l e (headSpec ws rm).room s m av.toArray below meth c s.heap [] 0 0 (MQT below (Qt A) av.toArray s mc ms A) (F0 m 0 ls [])) :
    MetT l y ws rm (va_Pc av (my_PreT k tx sa D tys W0 sz)) (Qt (va_A W0 sz)) mc ms (va_A W0 sz) := by
  refine MetT.ofW (cc := cc) (maxL := maxL) (ret := ret) hy hw ?_
  intro p e s m args below meth c s₁ B hml htab hv
  obtain ⟨rfl, ⟨hsz, hP, hK, hD0⟩, hZ⟩ := hv
  subst hsz
  have hl := lv_entry av (n := maxL) hle
  rw [lg_entry_eq]
  exact body p e s m below meth c (va_A W0 s.heap.size) _ hZ B.exec B.bytes hml htab (atoms_spec (ws := ws) B.pre) (findClass_of_methodNamed B.named) B.notSynchronized hP hK (hD0.self (sz := s.heap.size)) (fun q h => Or.inr h) hl
def wsT_octet : List Cond := wsX5_octet ++ thrW
set_option maxHeartbeats 400000 in
set_option maxRecDepth 100000 in
theorem t_X5_octet (l : Launch) (hno : l.stackTraces = false) (sa : Nat) (dC : Nat → ClassId) (dI : Nat → Nat → Nat) (cI cB : ClassId) (oX oS oC oN oW qW oK oH oG qG : Nat) (x_markCame : Bool) (x_rejectedStreams : Int32) (s_allRows : Int32) (s_allColumns : Int32) (s_rows : Int32) (s_columns : Int32) (s_size : Int32) (s_fields : Int32) (s_cursor : Int32) (s_n : Nat) (s_cells : Nat → Int32) (n_latestKey : Int32) (w_length : Int32) (w_n : Nat) (w_bytes : Nat → Int32) (k_isLocked : Bool) (k_inserts : Bool) (h_spoiled : Bool) (h_position : Int32) (h_place : Int32) (h_signJustPut : Bool) (h_ordersDone : Int32) (h_alarms : Int32) (g_length : Int32) (g_n : Nat) (g_bytes : Nat → Int32) (sz : Nat) (hsn : s_n < 2147483648) (hwn : 1 ≤ w_n ∧ w_n ≤ 65536) (hgn : 1 ≤ g_n ∧ g_n ≤ 65536) (a1 : Int32) (hf : f_X5_octet w_length w_n w_bytes a1 = none) : MetT l yX5_octet wsT_octet ({ frames := 7, cells := 1, slots := 6, locals := 120 }) (va_Pc [.ref oX, .int a1] (my_PreT 105 "no such byte waits to be sent" sa (dC, dI) [(cI, .int), (cB, .byte)] (wX oX oS oC oN oW qW oK oH oG qG cI cB x_markCame x_rejectedStreams s_allRows s_allColumns s_rows s_columns s_size s_fields s_cursor s_n s_cells n_latestKey w_length w_n w_bytes k_isLocked k_inserts h_spoiled h_position h_place h_signJustPut h_ordersDone h_alarms g_length g_n g_bytes) sz)) (my_Qt (dC, dI) [(cI, .int), (cB, .byte)] (wX oX oS oC oN oW qW oK oH oG qG cI cB x_markCame x_rejectedStreams s_allRows s_allColumns s_rows s_columns s_size s_fields s_cursor s_n s_cells n_latestKey w_length w_n w_bytes k_isLocked k_inserts h_spoiled h_position h_place h_signJustPut h_ordersDone h_alarms g_length g_n g_bytes) (va_A (wX oX oS oC oN oW qW oK oH oG qG cI cB x_markCame x_rejectedStreams s_allRows s_allColumns s_rows s_columns s_size s_fields s_cursor s_n s_cells n_latestKey w_length w_n w_bytes k_isLocked k_inserts h_spoiled h_position h_place h_signJustPut h_ordersDone h_alarms g_length g_n g_bytes) sz)) 1 6 (va_A (wX oX oS oC oN oW qW oK oH oG qG cI cB x_markCame x_rejectedStreams s_allRows s_allColumns s_rows s_columns s_size s_fields s_cursor s_n s_cells n_latestKey w_length w_n w_bytes k_isLocked k_inserts h_spoiled h_position h_place h_signJustPut h_ordersDone h_alarms g_length g_n g_bytes) sz) := by
  refine my_enterT (cc := cX5_octet) (maxL := 2) (ret := (some .byte)) (Qt := my_Qt (dC, dI) [(cI, .int), (cB, .byte)] (wX oX oS oC oN oW qW oK oH oG qG cI cB x_markCame x_rejectedStreams s_allRows s_allColumns s_rows s_columns s_size s_fields s_cursor s_n s_cells n_latestKey w_length w_n w_bytes k_isLocked k_inserts h_spoiled h_position h_place h_signJustPut h_ordersDone h_alarms g_length g_n g_bytes)) (by decide) rfl (Nat.le_of_ble_eq_true rfl) ?_
  intro p e s m below meth c A ls hZ hx hb hml htab hts0 hown hlocks hP hK hD hA hl
  have hts : ∀ w ∈ wsX5_octet, w.before ([.ref oX, .int a1] : List Value).toArray s = true := fun w h => hts0 w (List.mem_append_left _ h)
  have hown : s.vm.findClass RX5 = some m.cls := hown
  have hl : lv_has ls 2 [(0, .ref oX), (1, .int a1)] := hl
  unfold f_X5_octet at hf
  refine lv_iload_n hx hb dX5_octet_0 rfl (lv_at hl 1 rfl) ?_
  refine lv_if_lt (tgt := 18) hx hb dX5_octet_1 (by decide) (fun c_1 => ?_) (fun c_1 => ?_)
  · have hf := (if_pos c_1).symm.trans hf
    exact my_thr (names := thrN) (tx := "no such byte waits to be sent") (sa := sa) hx hb hno htab hlocks hown (hts (.classLink RX5 103 RJx00060) (List.mem_of_getElem? (i := 4) rfl)) (hts (.instantiable RJx00060 6) (List.mem_of_getElem? (i := 5) rfl)) (hts (.initialized RJx00060) (List.mem_of_getElem? (i := 6) rfl)) (hK.1 0 _ rfl).2.1 (by decide +kernel) (by decide +kernel) (thr_all (thr_two (fun w h => hts0 w (List.mem_append_right _ h)) hZ.2.2.2) hZ.1 hZ.2.1) hZ.2.2.1 dX5_octet_18 dX5_octet_21 dX5_octet_22 dX5_octet_24 dX5_octet_27 (by decide) (by decide) (by decide) (by decide) (hl.1.trans hml.symm) (fun t q ce hW hz ho h1 h2 h3 => ⟨⟨hP.kept (fun k x hx => ho x.1 (hP k x hx).lt), va_K.moved hW.alike hK, hD⟩, ⟨hz, fun z h4 h5 => ho z h4⟩, ce, h1, h2, h3⟩)
  · have hf := (if_neg c_1).symm.trans hf
    refine lv_iload_n hx hb dX5_octet_4 rfl (lv_at hl 1 rfl) ?_
    refine lv_aload_n hx hb dX5_octet_5 rfl (lv_at hl 0 rfl) ?_
    refine va_get (D := (dC, dI)) (ci := 6) (v := .ref oN) (C := RX5) (T := TX5) (N := 6) hx hb hts uu_X5_octet_X5 hown hK hP 0 rfl rfl 1 (by decide) (hts (.fieldLink RX5 23 "BlockScreen" "sender" "LBlockScreen$Sender;") (List.mem_of_getElem? (i := 1) rfl)) (fun _ h9 => h9) rfl dX5_octet_6 ?_
    refine va_get (D := (dC, dI)) (ci := 5) (v := .ref oW) (C := RX4) (T := TX4) (N := 3) hx hb hts uu_X5_octet_X4 hown hK hP 3 rfl rfl 1 (by decide) (hts (.fieldLink RX5 94 "BlockScreen$Sender" "waiting" "LBlockScreen$ByteRow;") (List.mem_of_getElem? (i := 2) rfl)) (fun _ h9 => h9) rfl dX5_octet_9 ?_
    refine va_get (D := (dC, dI)) (ci := 1) (v := .int w_length) (C := RX0) (T := TX0) (N := 2) hx hb hts uu_X5_octet_X0 hown hK hP 4 rfl rfl 1 (by decide) (hts (.fieldLink RX5 98 "BlockScreen$ByteRow" "length" "I") (List.mem_of_getElem? (i := 3) rfl)) (fun _ h9 => h9) rfl dX5_octet_12 ?_
    refine lv_icmp_lt (tgt := 28) hx hb dX5_octet_15 (by decide) (fun c_2 => ?_) (fun c_2 => ?_)
    · have hf := (if_pos c_2).symm.trans hf
      cases hf
    · have hf := (if_neg c_2).symm.trans hf
      exact my_thr (names := thrN) (tx := "no such byte waits to be sent") (sa := sa) hx hb hno htab hlocks hown (hts (.classLink RX5 103 RJx00060) (List.mem_of_getElem? (i := 4) rfl)) (hts (.instantiable RJx00060 6) (List.mem_of_getElem? (i := 5) rfl)) (hts (.initialized RJx00060) (List.mem_of_getElem? (i := 6) rfl)) (hK.1 0 _ rfl).2.1 (by decide +kernel) (by decide +kernel) (thr_all (thr_two (fun w h => hts0 w (List.mem_append_right _ h)) hZ.2.2.2) hZ.1 hZ.2.1) hZ.2.2.1 dX5_octet_18 dX5_octet_21 dX5_octet_22 dX5_octet_24 dX5_octet_27 (by decide) (by decide) (by decide) (by decide) (hl.1.trans hml.symm) (fun t q ce hW hz ho h1 h2 h3 => ⟨⟨hP.kept (fun k x hx => ho x.1 (hP k x hx).lt), va_K.moved hW.alike hK, hD⟩, ⟨hz, fun z h4 h5 => ho z h4⟩, ce, h1, h2, h3⟩)

def wsT_cell : List Cond := wsX5_cell ++ thrW
set_option maxHeartbeats 400000 in
set_option maxRecDepth 100000 in
theorem t_X5_cell (l : Launch) (hno : l.stackTraces = false) (sa : Nat) (dC : Nat → ClassId) (dI : Nat → Nat → Nat) (cI cB : ClassId) (oX oS oC oN oW qW oK oH oG qG : Nat) (x_markCame : Bool) (x_rejectedStreams : Int32) (s_allRows : Int32) (s_allColumns : Int32) (s_rows : Int32) (s_columns : Int32) (s_size : Int32) (s_fields : Int32) (s_cursor : Int32) (s_n : Nat) (s_cells : Nat → Int32) (n_latestKey : Int32) (w_length : Int32) (w_n : Nat) (w_bytes : Nat → Int32) (k_isLocked : Bool) (k_inserts : Bool) (h_spoiled : Bool) (h_position : Int32) (h_place : Int32) (h_signJustPut : Bool) (h_ordersDone : Int32) (h_alarms : Int32) (g_length : Int32) (g_n : Nat) (g_bytes : Nat → Int32) (sz : Nat) (hsn : s_n < 2147483648) (hwn : 1 ≤ w_n ∧ w_n ≤ 65536) (hgn : 1 ≤ g_n ∧ g_n ≤ 65536) (a1 : Int32) (hf : f_X5_cell s_size s_n s_cells a1 = none) : MetT l yX5_cell wsT_cell ({ frames := 7, cells := 1, slots := 6, locals := 120 }) (va_Pc [.ref oX, .int a1] (my_PreT 129 "no such address in the screen in use" sa (dC, dI) [(cI, .int), (cB, .byte)] (wX oX oS oC oN oW qW oK oH oG qG cI cB x_markCame x_rejectedStreams s_allRows s_allColumns s_rows s_columns s_size s_fields s_cursor s_n s_cells n_latestKey w_length w_n w_bytes k_isLocked k_inserts h_spoiled h_position h_place h_signJustPut h_ordersDone h_alarms g_length g_n g_bytes) sz)) (my_Qt (dC, dI) [(cI, .int), (cB, .byte)] (wX oX oS oC oN oW qW oK oH oG qG cI cB x_markCame x_rejectedStreams s_allRows s_allColumns s_rows s_columns s_size s_fields s_cursor s_n s_cells n_latestKey w_length w_n w_bytes k_isLocked k_inserts h_spoiled h_position h_place h_signJustPut h_ordersDone h_alarms g_length g_n g_bytes) (va_A (wX oX oS oC oN oW qW oK oH oG qG cI cB x_markCame x_rejectedStreams s_allRows s_allColumns s_rows s_columns s_size s_fields s_cursor s_n s_cells n_latestKey w_length w_n w_bytes k_isLocked k_inserts h_spoiled h_position h_place h_signJustPut h_ordersDone h_alarms g_length g_n g_bytes) sz)) 1 6 (va_A (wX oX oS oC oN oW qW oK oH oG qG cI cB x_markCame x_rejectedStreams s_allRows s_allColumns s_rows s_columns s_size s_fields s_cursor s_n s_cells n_latestKey w_length w_n w_bytes k_isLocked k_inserts h_spoiled h_position h_place h_signJustPut h_ordersDone h_alarms g_length g_n g_bytes) sz) := by
  refine my_enterT (cc := cX5_cell) (maxL := 2) (ret := (some .int)) (Qt := my_Qt (dC, dI) [(cI, .int), (cB, .byte)] (wX oX oS oC oN oW qW oK oH oG qG cI cB x_markCame x_rejectedStreams s_allRows s_allColumns s_rows s_columns s_size s_fields s_cursor s_n s_cells n_latestKey w_length w_n w_bytes k_isLocked k_inserts h_spoiled h_position h_place h_signJustPut h_ordersDone h_alarms g_length g_n g_bytes)) (by decide) rfl (Nat.le_of_ble_eq_true rfl) ?_
  intro p e s m below meth c A ls hZ hx hb hml htab hts0 hown hlocks hP hK hD hA hl
  have hts : ∀ w ∈ wsX5_cell, w.before ([.ref oX, .int a1] : List Value).toArray s = true := fun w h => hts0 w (List.mem_append_left _ h)
  have hown : s.vm.findClass RX5 = some m.cls := hown
  have hl : lv_has ls 2 [(0, .ref oX), (1, .int a1)] := hl
  unfold f_X5_cell at hf
  refine lv_iload_n hx hb dX5_cell_0 rfl (lv_at hl 1 rfl) ?_
  refine lv_if_lt (tgt := 15) hx hb dX5_cell_1 (by decide) (fun c_1 => ?_) (fun c_1 => ?_)
  · have hf := (if_pos c_1).symm.trans hf
    exact my_thr (names := thrN) (tx := "no such address in the screen in use") (sa := sa) hx hb hno htab hlocks hown (hts (.classLink RX5 103 RJx00060) (List.mem_of_getElem? (i := 3) rfl)) (hts (.instantiable RJx00060 6) (List.mem_of_getElem? (i := 4) rfl)) (hts (.initialized RJx00060) (List.mem_of_getElem? (i := 5) rfl)) (hK.1 0 _ rfl).2.1 (by decide +kernel) (by decide +kernel) (thr_all (thr_two (fun w h => hts0 w (List.mem_append_right _ h)) hZ.2.2.2) hZ.1 hZ.2.1) hZ.2.2.1 dX5_cell_15 dX5_cell_18 dX5_cell_19 dX5_cell_21 dX5_cell_24 (by decide) (by decide) (by decide) (by decide) (hl.1.trans hml.symm) (fun t q ce hW hz ho h1 h2 h3 => ⟨⟨hP.kept (fun k x hx => ho x.1 (hP k x hx).lt), va_K.moved hW.alike hK, hD⟩, ⟨hz, fun z h4 h5 => ho z h4⟩, ce, h1, h2, h3⟩)
  · have hf := (if_neg c_1).symm.trans hf
    refine lv_iload_n hx hb dX5_cell_4 rfl (lv_at hl 1 rfl) ?_
    refine lv_aload_n hx hb dX5_cell_5 rfl (lv_at hl 0 rfl) ?_
    refine va_get (D := (dC, dI)) (ci := 6) (v := .ref oS) (C := RX5) (T := TX5) (N := 6) hx hb hts uu_X5_cell_X5 hown hK hP 0 rfl rfl 0 (by decide) (hts (.fieldLink RX5 12 "BlockScreen" "screen" "LBlockScreen$Screen;") (List.mem_of_getElem? (i := 1) rfl)) (fun _ h9 => h9) rfl dX5_cell_6 ?_
    refine va_get (D := (dC, dI)) (ci := 4) (v := .int s_size) (C := RX3) (T := TX3) (N := 8) hx hb hts uu_X5_cell_X3 hown hK hP 1 rfl rfl 5 (by decide) (hts (.fieldLink RX5 126 "BlockScreen$Screen" "size" "I") (List.mem_of_getElem? (i := 2) rfl)) (fun _ h9 => h9) rfl dX5_cell_9 ?_
    refine lv_icmp_lt (tgt := 25) hx hb dX5_cell_12 (by decide) (fun c_2 => ?_) (fun c_2 => ?_)
    · have hf := (if_pos c_2).symm.trans hf
      cases hf
    · have hf := (if_neg c_2).symm.trans hf
      exact my_thr (names := thrN) (tx := "no such address in the screen in use") (sa := sa) hx hb hno htab hlocks hown (hts (.classLink RX5 103 RJx00060) (List.mem_of_getElem? (i := 3) rfl)) (hts (.instantiable RJx00060 6) (List.mem_of_getElem? (i := 4) rfl)) (hts (.initialized RJx00060) (List.mem_of_getElem? (i := 5) rfl)) (hK.1 0 _ rfl).2.1 (by decide +kernel) (by decide +kernel) (thr_all (thr_two (fun w h => hts0 w (List.mem_append_right _ h)) hZ.2.2.2) hZ.1 hZ.2.1) hZ.2.2.1 dX5_cell_15 dX5_cell_18 dX5_cell_19 dX5_cell_21 dX5_cell_24 (by decide) (by decide) (by decide) (by decide) (hl.1.trans hml.symm) (fun t q ce hW hz ho h1 h2 h3 => ⟨⟨hP.kept (fun k x hx => ho x.1 (hP k x hx).lt), va_K.moved hW.alike hK, hD⟩, ⟨hz, fun z h4 h5 => ho z h4⟩, ce, h1, h2, h3⟩)
