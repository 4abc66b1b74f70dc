def f_X0_get_oW (w_length : Int32) (w_n : Nat) (w_bytes : Nat → Int32) (a1 : Int32) : Int32 :=
    if a1 < 0 then
    (-1)
    else
    if w_length ≤ a1 then
    (-1)
    else
    if a1 < (nI w_n) then
    ((w_bytes a1.toNatClampNeg) &&& 255)
    else
    (-1)
set_option maxHeartbeats 400000 in
set_option maxRecDepth 100000 in
theorem c_X0_get_oW (l : Launch) (dC : Nat → ClassId) (dI : Nat → Nat → Nat) (cI cB : ClassId) (oX oS oC oN oW qW oK oH oG qG : Nat) (x_markCame : Bool) (x_rejectedStreams : Int32) (s_allRows : Int32) (s_allColumns : Int32) (s_rows : Int32) (s_columns : Int32) (s_size : Int32) (s_fields : Int32) (s_cursor : Int32) (s_n : Nat) (s_cells : Nat → Int32) (n_latestKey : Int32) (w_length : Int32) (w_n : Nat) (w_bytes : Nat → Int32) (k_isLocked : Bool) (k_inserts : Bool) (h_spoiled : Bool) (h_position : Int32) (h_place : Int32) (h_signJustPut : Bool) (h_ordersDone : Int32) (h_alarms : Int32) (g_length : Int32) (g_n : Nat) (g_bytes : Nat → Int32) (sz : Nat) (hsn : s_n < 2147483648) (hwn : 1 ≤ w_n ∧ w_n ≤ 65536) (hgn : 1 ≤ g_n ∧ g_n ≤ 65536) (a1 : Int32) (res : Int32) (hf : f_X0_get_oW w_length w_n w_bytes a1 = res) : Met l yX0_get wsX0_get ({ frames := 0, cells := 0, slots := 0, locals := 0 }) (va_Pc [.ref oW, .int a1] (my_Pre (dC, dI) [(cI, .int), (cB, .byte)] (wX oX oS oC oN oW qW oK oH oG qG cI cB x_markCame x_rejectedStreams s_allRows s_allColumns s_rows s_columns s_size s_fields s_cursor s_n s_cells n_latestKey w_length w_n w_bytes k_isLocked k_inserts h_spoiled h_position h_place h_signJustPut h_ordersDone h_alarms g_length g_n g_bytes) sz)) (my_Qi (S := Unit) (dC, dI) [(cI, .int), (cB, .byte)] res (fun _ => wX oX oS oC oN oW qW oK oH oG qG cI cB x_markCame x_rejectedStreams s_allRows s_allColumns s_rows s_columns s_size s_fields s_cursor s_n s_cells n_latestKey w_length w_n w_bytes k_isLocked k_inserts h_spoiled h_position h_place h_signJustPut h_ordersDone h_alarms g_length g_n g_bytes) (va_A (wX oX oS oC oN oW qW oK oH oG qG cI cB x_markCame x_rejectedStreams s_allRows s_allColumns s_rows s_columns s_size s_fields s_cursor s_n s_cells n_latestKey w_length w_n w_bytes k_isLocked k_inserts h_spoiled h_position h_place h_signJustPut h_ordersDone h_alarms g_length g_n g_bytes) sz)) 0 0 (va_A (wX oX oS oC oN oW qW oK oH oG qG cI cB x_markCame x_rejectedStreams s_allRows s_allColumns s_rows s_columns s_size s_fields s_cursor s_n s_cells n_latestKey w_length w_n w_bytes k_isLocked k_inserts h_spoiled h_position h_place h_signJustPut h_ordersDone h_alarms g_length g_n g_bytes) sz) := by
  refine my_enter (cc := cX0_get) (maxL := 2) (ret := (some .int)) (Qc := my_Qi (S := Unit) (dC, dI) [(cI, .int), (cB, .byte)] res (fun _ => wX oX oS oC oN oW qW oK oH oG qG cI cB x_markCame x_rejectedStreams s_allRows s_allColumns s_rows s_columns s_size s_fields s_cursor s_n s_cells n_latestKey w_length w_n w_bytes k_isLocked k_inserts h_spoiled h_position h_place h_signJustPut h_ordersDone h_alarms g_length g_n g_bytes)) (by decide) rfl (Nat.le_of_ble_eq_true rfl) ?_
  intro p e s m below meth c A ls hx hb hr hml hts hown hlocks hnm hP hK hD hA hS hl
  have hown : s.vm.findClass RX0 = some m.cls := hown
  have hl : lv_has ls 2 [(0, .ref oW), (1, .int a1)] := hl
  unfold f_X0_get_oW at hf
  refine lv_iload_n hx hb dX0_get_0 rfl (lv_at hl 1 rfl) ?_
  refine lv_if_lt (tgt := 21) hx hb dX0_get_1 (by decide) (fun c_1 => ?_) (fun c_1 => ?_)
  · have hf := (if_pos c_1).symm.trans hf
    refine lv_iconst (v := (-1)) hx hb dX0_get_21 (by decide) ?_
    refine lv_goto (tgt := 35) hx hb dX0_get_22 (by decide) ?_
    subst hf
    exact my_reti () hx hb hr hlocks hK hP hD hS rfl dX0_get_35
  · have hf := (if_neg c_1).symm.trans hf
    refine lv_iload_n hx hb dX0_get_4 rfl (lv_at hl 1 rfl) ?_
    refine lv_aload_n hx hb dX0_get_5 rfl (lv_at hl 0 rfl) ?_
    refine va_get (D := (dC, dI)) (ci := 1) (v := .int w_length) (C := RX0) (T := TX0) (N := 2) hx hb hts uu_X0_get_X0 hown hK hP 4 rfl rfl 1 (by decide) (hts (.fieldLink RX0 15 "BlockScreen$ByteRow" "length" "I") (List.mem_of_getElem? (i := 1) rfl)) (fun _ h9 => h9) rfl dX0_get_6 ?_
    refine lv_icmp_ge (tgt := 21) hx hb dX0_get_9 (by decide) (fun c_2 => ?_) (fun c_2 => ?_)
    · have hf := (if_pos c_2).symm.trans hf
      refine lv_iconst (v := (-1)) hx hb dX0_get_21 (by decide) ?_
      refine lv_goto (tgt := 35) hx hb dX0_get_22 (by decide) ?_
      subst hf
      exact my_reti () hx hb hr hlocks hK hP hD hS rfl dX0_get_35
    · have hf := (if_neg c_2).symm.trans hf
      refine lv_iload_n hx hb dX0_get_12 rfl (lv_at hl 1 rfl) ?_
      refine lv_aload_n hx hb dX0_get_13 rfl (lv_at hl 0 rfl) ?_
      refine va_get (D := (dC, dI)) (ci := 1) (v := .ref qW) (C := RX0) (T := TX0) (N := 2) hx hb hts uu_X0_get_X0 hown hK hP 4 rfl rfl 0 (by decide) (hts (.fieldLink RX0 11 "BlockScreen$ByteRow" "bytes" "[B") (List.mem_of_getElem? (i := 2) rfl)) (fun _ h9 => h9) rfl dX0_get_14 ?_
      refine va_alen (v := nI w_n) hx hb hK hP 5 1 rfl rfl rfl dX0_get_17 ?_
      refine lv_icmp_lt (tgt := 25) hx hb dX0_get_18 (by decide) (fun c_3 => ?_) (fun c_3 => ?_)
      · have hf := (if_pos c_3).symm.trans hf
        refine lv_aload_n hx hb dX0_get_25 rfl (lv_at hl 0 rfl) ?_
        refine va_get (D := (dC, dI)) (ci := 1) (v := .ref qW) (C := RX0) (T := TX0) (N := 2) hx hb hts uu_X0_get_X0 hown hK hP 4 rfl rfl 0 (by decide) (hts (.fieldLink RX0 11 "BlockScreen$ByteRow" "bytes" "[B") (List.mem_of_getElem? (i := 2) rfl)) (fun _ h9 => h9) rfl dX0_get_26 ?_
        refine lv_iload_n hx hb dX0_get_29 rfl (lv_at hl 1 rfl) ?_
        refine va_bald hx hb hK hP 5 1 rfl rfl (vp_of_guard c_1 (gd_lt c_3) (by have := hwn; omega)) dX0_get_30 ?_
        refine lv_sipush (v := 255) hx hb dX0_get_31 (by decide) ?_
        refine lv_iand hx hb dX0_get_34 ?_
        subst hf
        exact my_reti () hx hb hr hlocks hK hP hD hS rfl dX0_get_35
      · have hf := (if_neg c_3).symm.trans hf
        refine lv_iconst (v := (-1)) hx hb dX0_get_21 (by decide) ?_
        refine lv_goto (tgt := 35) hx hb dX0_get_22 (by decide) ?_
        subst hf
        exact my_reti () hx hb hr hlocks hK hP hD hS rfl dX0_get_35

theorem uu_X5_octet_X0 : ∀ w ∈ u_ws RX0 TX0 2, w ∈ wsX5_octet := fun _ h => List.mem_cons_of_mem _ (List.mem_append_left _ (List.mem_append_right _ h))
theorem uu_X5_octet_X4 : ∀ w ∈ u_ws RX4 TX4 3, w ∈ wsX5_octet := fun _ h => List.mem_cons_of_mem _ (List.mem_append_left _ (List.mem_append_left _ (List.mem_append_right _ h)))
theorem uu_X5_octet_X5 : ∀ w ∈ u_ws RX5 TX5 6, w ∈ wsX5_octet := fun _ h => List.mem_cons_of_mem _ (List.mem_append_left _ (List.mem_append_left _ (List.mem_append_left _ (List.mem_append_right _ h))))
def f_X5_octet (w_length : Int32) (w_n : Nat) (w_bytes : Nat → Int32) (a1 : Int32) : Option (Int32) :=
    if a1 < 0 then
    none
    else
    if a1 < w_length then
    some ((f_X0_get_oW w_length w_n w_bytes a1).toInt8.toInt32)
    else
    none
set_option maxHeartbeats 400000 in
set_option maxRecDepth 100000 in
theorem c_X5_octet (l : Launch) (dC : Nat → ClassId) (dI : Nat → Nat → Nat) (cI cB : ClassId) (oX oS oC oN oW qW oK oH oG qG : Nat) (x_markCame : Bool) (x_rejectedStreams : Int32) (s_allRows : Int32) (s_allColumns : Int32) (s_rows : Int32) (s_columns : Int32) (s_size : Int32) (s_fields : Int32) (s_cursor : Int32) (s_n : Nat) (s_cells : Nat → Int32) (n_latestKey : Int32) (w_length : Int32) (w_n : Nat) (w_bytes : Nat → Int32) (k_isLocked : Bool) (k_inserts : Bool) (h_spoiled : Bool) (h_position : Int32) (h_place : Int32) (h_signJustPut : Bool) (h_ordersDone : Int32) (h_alarms : Int32) (g_length : Int32) (g_n : Nat) (g_bytes : Nat → Int32) (sz : Nat) (hsn : s_n < 2147483648) (hwn : 1 ≤ w_n ∧ w_n ≤ 65536) (hgn : 1 ≤ g_n ∧ g_n ≤ 65536) (a1 : Int32) (res : Int32) (hf : f_X5_octet w_length w_n w_bytes a1 = some res) : Met l yX5_octet wsX5_octet ({ frames := 1, cells := 0, slots := 0, locals := 21 }) (va_Pc [.ref oX, .int a1] (my_Pre (dC, dI) [(cI, .int), (cB, .byte)] (wX oX oS oC oN oW qW oK oH oG qG cI cB x_markCame x_rejectedStreams s_allRows s_allColumns s_rows s_columns s_size s_fields s_cursor s_n s_cells n_latestKey w_length w_n w_bytes k_isLocked k_inserts h_spoiled h_position h_place h_signJustPut h_ordersDone h_alarms g_length g_n g_bytes) sz)) (my_Qi (S := Unit) (dC, dI) [(cI, .int), (cB, .byte)] res (fun _ => wX oX oS oC oN oW qW oK oH oG qG cI cB x_markCame x_rejectedStreams s_allRows s_allColumns s_rows s_columns s_size s_fields s_cursor s_n s_cells n_latestKey w_length w_n w_bytes k_isLocked k_inserts h_spoiled h_position h_place h_signJustPut h_ordersDone h_alarms g_length g_n g_bytes) (va_A (wX oX oS oC oN oW qW oK oH oG qG cI cB x_markCame x_rejectedStreams s_allRows s_allColumns s_rows s_columns s_size s_fields s_cursor s_n s_cells n_latestKey w_length w_n w_bytes k_isLocked k_inserts h_spoiled h_position h_place h_signJustPut h_ordersDone h_alarms g_length g_n g_bytes) sz)) 0 0 (va_A (wX oX oS oC oN oW qW oK oH oG qG cI cB x_markCame x_rejectedStreams s_allRows s_allColumns s_rows s_columns s_size s_fields s_cursor s_n s_cells n_latestKey w_length w_n w_bytes k_isLocked k_inserts h_spoiled h_position h_place h_signJustPut h_ordersDone h_alarms g_length g_n g_bytes) sz) := by
  refine my_enter (cc := cX5_octet) (maxL := 2) (ret := (some .byte)) (Qc := my_Qi (S := Unit) (dC, dI) [(cI, .int), (cB, .byte)] res (fun _ => wX oX oS oC oN oW qW oK oH oG qG cI cB x_markCame x_rejectedStreams s_allRows s_allColumns s_rows s_columns s_size s_fields s_cursor s_n s_cells n_latestKey w_length w_n w_bytes k_isLocked k_inserts h_spoiled h_position h_place h_signJustPut h_ordersDone h_alarms g_length g_n g_bytes)) (by decide) rfl (Nat.le_of_ble_eq_true rfl) ?_
  intro p e s m below meth c A ls hx hb hr hml hts hown hlocks hnm hP hK hD hA hS hl
  have hown : s.vm.findClass RX5 = some m.cls := hown
  have hl : lv_has ls 2 [(0, .ref oX), (1, .int a1)] := hl
  unfold f_X5_octet at hf
  refine lv_iload_n hx hb dX5_octet_0 rfl (lv_at hl 1 rfl) ?_
  refine lv_if_lt (tgt := 18) hx hb dX5_octet_1 (by decide) (fun c_1 => ?_) (fun c_1 => ?_)
  · have hf := (if_pos c_1).symm.trans hf
    exact nn_abs hf
  · have hf := (if_neg c_1).symm.trans hf
    refine lv_iload_n hx hb dX5_octet_4 rfl (lv_at hl 1 rfl) ?_
    refine lv_aload_n hx hb dX5_octet_5 rfl (lv_at hl 0 rfl) ?_
    refine va_get (D := (dC, dI)) (ci := 6) (v := .ref oN) (C := RX5) (T := TX5) (N := 6) hx hb hts uu_X5_octet_X5 hown hK hP 0 rfl rfl 1 (by decide) (hts (.fieldLink RX5 23 "BlockScreen" "sender" "LBlockScreen$Sender;") (List.mem_of_getElem? (i := 1) rfl)) (fun _ h9 => h9) rfl dX5_octet_6 ?_
    refine va_get (D := (dC, dI)) (ci := 5) (v := .ref oW) (C := RX4) (T := TX4) (N := 3) hx hb hts uu_X5_octet_X4 hown hK hP 3 rfl rfl 1 (by decide) (hts (.fieldLink RX5 94 "BlockScreen$Sender" "waiting" "LBlockScreen$ByteRow;") (List.mem_of_getElem? (i := 2) rfl)) (fun _ h9 => h9) rfl dX5_octet_9 ?_
    refine va_get (D := (dC, dI)) (ci := 1) (v := .int w_length) (C := RX0) (T := TX0) (N := 2) hx hb hts uu_X5_octet_X0 hown hK hP 4 rfl rfl 1 (by decide) (hts (.fieldLink RX5 98 "BlockScreen$ByteRow" "length" "I") (List.mem_of_getElem? (i := 3) rfl)) (fun _ h9 => h9) rfl dX5_octet_12 ?_
    refine lv_icmp_lt (tgt := 28) hx hb dX5_octet_15 (by decide) (fun c_2 => ?_) (fun c_2 => ?_)
    · have hf := (if_pos c_2).symm.trans hf
      refine lv_aload_n hx hb dX5_octet_28 rfl (lv_at hl 0 rfl) ?_
      refine va_get (D := (dC, dI)) (ci := 6) (v := .ref oN) (C := RX5) (T := TX5) (N := 6) hx hb hts uu_X5_octet_X5 hown hK hP 0 rfl rfl 1 (by decide) (hts (.fieldLink RX5 23 "BlockScreen" "sender" "LBlockScreen$Sender;") (List.mem_of_getElem? (i := 1) rfl)) (fun _ h9 => h9) rfl dX5_octet_29 ?_
      refine va_get (D := (dC, dI)) (ci := 5) (v := .ref oW) (C := RX4) (T := TX4) (N := 3) hx hb hts uu_X5_octet_X4 hown hK hP 3 rfl rfl 1 (by decide) (hts (.fieldLink RX5 94 "BlockScreen$Sender" "waiting" "LBlockScreen$ByteRow;") (List.mem_of_getElem? (i := 2) rfl)) (fun _ h9 => h9) rfl dX5_octet_32 ?_
      refine lv_iload_n hx hb dX5_octet_35 rfl (lv_at hl 1 rfl) ?_
      refine my_cVi (As := [.int a1]) (rest := []) ⟨hx, hb, hml, hown, hts⟩ (c_X0_get_oW l dC dI cI cB oX oS oC oN oW qW oK oH oG qG x_markCame x_rejectedStreams s_allRows s_allColumns s_rows s_columns s_size s_fields s_cursor s_n s_cells n_latestKey w_length w_n w_bytes k_isLocked k_inserts h_spoiled h_position h_place h_signJustPut h_ordersDone h_alarms g_length g_n g_bytes _ hsn hwn hgn a1 (f_X0_get_oW w_length w_n w_bytes a1) rfl) (cwV 1 hts gX5_octet_X0_get rfl rfl rfl (by decide +kernel) ⟨Nat.le_of_ble_eq_true rfl, Nat.le_of_ble_eq_true rfl⟩) hK hP hD hS hA 4 1 rfl rfl rfl hl.1 rfl (Nat.le_of_ble_eq_true rfl) dX5_octet_36 ⟨Nat.zero_le _, Nat.zero_le _⟩ (fun _ H locs hP hD hS => ?_)
      have hP : va_P (dC, dI) vwCl (wX oX oS oC oN oW qW oK oH oG qG cI cB x_markCame x_rejectedStreams s_allRows s_allColumns s_rows s_columns s_size s_fields s_cursor s_n s_cells n_latestKey w_length w_n w_bytes k_isLocked k_inserts h_spoiled h_position h_place h_signJustPut h_ordersDone h_alarms g_length g_n g_bytes) H := hP
      have hD : va_D A (wX oX oS oC oN oW qW oK oH oG qG cI cB x_markCame x_rejectedStreams s_allRows s_allColumns s_rows s_columns s_size s_fields s_cursor s_n s_cells n_latestKey w_length w_n w_bytes k_isLocked k_inserts h_spoiled h_position h_place h_signJustPut h_ordersDone h_alarms g_length g_n g_bytes) := hD
      refine lv_i2b hx hb dX5_octet_39 rfl ?_
      have hf := Option.some.inj hf
      subst hf
      exact my_retz () hx hb hr hlocks (pk_nb _) hK hP hD hS rfl dX5_octet_40
    · have hf := (if_neg c_2).symm.trans hf
      exact nn_abs hf

theorem uu_X5_cell_X3 : ∀ w ∈ u_ws RX3 TX3 8, w ∈ wsX5_cell := fun _ h => List.mem_cons_of_mem _ (List.mem_append_left _ (List.mem_append_right _ h))
theorem uu_X5_cell_X5 : ∀ w ∈ u_ws RX5 TX5 6, w ∈ wsX5_cell := fun _ h => List.mem_cons_of_mem _ (List.mem_append_left _ (List.mem_append_left _ (List.mem_append_right _ h)))
def f_X5_cell (s_size : Int32) (s_n : Nat) (s_cells : Nat → Int32) (a1 : Int32) : Option (Int32) :=
    if a1 < 0 then
    none
    else
    if a1 < s_size then
    some (f_X3_get s_n s_cells a1)
    else
    none
set_option maxHeartbeats 400000 in
set_option maxRecDepth 100000 in
theorem c_X5_cell (l : Launch) (dC : Nat → ClassId) (dI : Nat → Nat → Nat) (cI cB : ClassId) (oX oS oC oN oW qW oK oH oG qG : Nat) (x_markCame : Bool) (x_rejectedStreams : Int32) (s_allRows : Int32) (s_allColumns : Int32) (s_rows : Int32) (s_columns : Int32) (s_size : Int32) (s_fields : Int32) (s_cursor : Int32) (s_n : Nat) (s_cells : Nat → Int32) (n_latestKey : Int32) (w_length : Int32) (w_n : Nat) (w_bytes : Nat → Int32) (k_isLocked : Bool) (k_inserts : Bool) (h_spoiled : Bool) (h_position : Int32) (h_place : Int32) (h_signJustPut : Bool) (h_ordersDone : Int32) (h_alarms : Int32) (g_length : Int32) (g_n : Nat) (g_bytes : Nat → Int32) (sz : Nat) (hsn : s_n < 2147483648) (hwn : 1 ≤ w_n ∧ w_n ≤ 65536) (hgn : 1 ≤ g_n ∧ g_n ≤ 65536) (a1 : Int32) (res : Int32) (hf : f_X5_cell s_size s_n s_cells a1 = some res) : Met l yX5_cell wsX5_cell ({ frames := 1, cells := 0, slots := 0, locals := 21 }) (va_Pc [.ref oX, .int a1] (my_Pre (dC, dI) [(cI, .int), (cB, .byte)] (wX oX oS oC oN oW qW oK oH oG qG cI cB x_markCame x_rejectedStreams s_allRows s_allColumns s_rows s_columns s_size s_fields s_cursor s_n s_cells n_latestKey w_length w_n w_bytes k_isLocked k_inserts h_spoiled h_position h_place h_signJustPut h_ordersDone h_alarms g_length g_n g_bytes) sz)) (my_Qi (S := Unit) (dC, dI) [(cI, .int), (cB, .byte)] res (fun _ => wX oX oS oC oN oW qW oK oH oG qG cI cB x_markCame x_rejectedStreams s_allRows s_allColumns s_rows s_columns s_size s_fields s_cursor s_n s_cells n_latestKey w_length w_n w_bytes k_isLocked k_inserts h_spoiled h_position h_place h_signJustPut h_ordersDone h_alarms g_length g_n g_bytes) (va_A (wX oX oS oC oN oW qW oK oH oG qG cI cB x_markCame x_rejectedStreams s_allRows s_allColumns s_rows s_columns s_size s_fields s_cursor s_n s_cells n_latestKey w_length w_n w_bytes k_isLocked k_inserts h_spoiled h_position h_place h_signJustPut h_ordersDone h_alarms g_length g_n g_bytes) sz)) 0 0 (va_A (wX oX oS oC oN oW qW oK oH oG qG cI cB x_markCame x_rejectedStreams s_allRows s_allColumns s_rows s_columns s_size s_fields s_cursor s_n s_cells n_latestKey w_length w_n w_bytes k_isLocked k_inserts h_spoiled h_position h_place h_signJustPut h_ordersDone h_alarms g_length g_n g_bytes) sz) := by
  refine my_enter (cc := cX5_cell) (maxL := 2) (ret := (some .int)) (Qc := my_Qi (S := Unit) (dC, dI) [(cI, .int), (cB, .byte)] res (fun _ => wX oX oS oC oN oW qW oK oH oG qG cI cB x_markCame x_rejectedStreams s_allRows s_allColumns s_rows s_columns s_size s_fields s_cursor s_n s_cells n_latestKey w_length w_n w_bytes k_isLocked k_inserts h_spoiled h_position h_place h_signJustPut h_ordersDone h_alarms g_length g_n g_bytes)) (by decide) rfl (Nat.le_of_ble_eq_true rfl) ?_
  intro p e s m below meth c A ls hx hb hr hml hts hown hlocks hnm hP hK hD hA hS hl
  have hown : s.vm.findClass RX5 = some m.cls := hown
  have hl : lv_has ls 2 [(0, .ref oX), (1, .int a1)] := hl
  unfold f_X5_cell at hf
  refine lv_iload_n hx hb dX5_cell_0 rfl (lv_at hl 1 rfl) ?_
  refine lv_if_lt (tgt := 15) hx hb dX5_cell_1 (by decide) (fun c_1 => ?_) (fun c_1 => ?_)
  · have hf := (if_pos c_1).symm.trans hf
    exact nn_abs hf
  · have hf := (if_neg c_1).symm.trans hf
    refine lv_iload_n hx hb dX5_cell_4 rfl (lv_at hl 1 rfl) ?_
    refine lv_aload_n hx hb dX5_cell_5 rfl (lv_at hl 0 rfl) ?_
    refine va_get (D := (dC, dI)) (ci := 6) (v := .ref oS) (C := RX5) (T := TX5) (N := 6) hx hb hts uu_X5_cell_X5 hown hK hP 0 rfl rfl 0 (by decide) (hts (.fieldLink RX5 12 "BlockScreen" "screen" "LBlockScreen$Screen;") (List.mem_of_getElem? (i := 1) rfl)) (fun _ h9 => h9) rfl dX5_cell_6 ?_
    refine va_get (D := (dC, dI)) (ci := 4) (v := .int s_size) (C := RX3) (T := TX3) (N := 8) hx hb hts uu_X5_cell_X3 hown hK hP 1 rfl rfl 5 (by decide) (hts (.fieldLink RX5 126 "BlockScreen$Screen" "size" "I") (List.mem_of_getElem? (i := 2) rfl)) (fun _ h9 => h9) rfl dX5_cell_9 ?_
    refine lv_icmp_lt (tgt := 25) hx hb dX5_cell_12 (by decide) (fun c_2 => ?_) (fun c_2 => ?_)
    · have hf := (if_pos c_2).symm.trans hf
      refine lv_aload_n hx hb dX5_cell_25 rfl (lv_at hl 0 rfl) ?_
      refine va_get (D := (dC, dI)) (ci := 6) (v := .ref oS) (C := RX5) (T := TX5) (N := 6) hx hb hts uu_X5_cell_X5 hown hK hP 0 rfl rfl 0 (by decide) (hts (.fieldLink RX5 12 "BlockScreen" "screen" "LBlockScreen$Screen;") (List.mem_of_getElem? (i := 1) rfl)) (fun _ h9 => h9) rfl dX5_cell_26 ?_
      refine lv_iload_n hx hb dX5_cell_29 rfl (lv_at hl 1 rfl) ?_
      refine my_cVi (As := [.int a1]) (rest := []) ⟨hx, hb, hml, hown, hts⟩ (c_X3_get l dC dI cI cB oX oS oC oN oW qW oK oH oG qG x_markCame x_rejectedStreams s_allRows s_allColumns s_rows s_columns s_size s_fields s_cursor s_n s_cells n_latestKey w_length w_n w_bytes k_isLocked k_inserts h_spoiled h_position h_place h_signJustPut h_ordersDone h_alarms g_length g_n g_bytes _ hsn hwn hgn a1 (f_X3_get s_n s_cells a1) rfl) (cwV 1 hts gX5_cell_X3_get rfl rfl rfl (by decide +kernel) ⟨Nat.le_of_ble_eq_true rfl, Nat.le_of_ble_eq_true rfl⟩) hK hP hD hS hA 1 4 rfl rfl rfl hl.1 rfl (Nat.le_of_ble_eq_true rfl) dX5_cell_30 ⟨Nat.zero_le _, Nat.zero_le _⟩ (fun _ H locs hP hD hS => ?_)
      have hP : va_P (dC, dI) vwCl (wX oX oS oC oN oW qW oK oH oG qG cI cB x_markCame x_rejectedStreams s_allRows s_allColumns s_rows s_columns s_size s_fields s_cursor s_n s_cells n_latestKey w_length w_n w_bytes k_isLocked k_inserts h_spoiled h_position h_place h_signJustPut h_ordersDone h_alarms g_length g_n g_bytes) H := hP
      have hD : va_D A (wX oX oS oC oN oW qW oK oH oG qG cI cB x_markCame x_rejectedStreams s_allRows s_allColumns s_rows s_columns s_size s_fields s_cursor s_n s_cells n_latestKey w_length w_n w_bytes k_isLocked k_inserts h_spoiled h_position h_place h_signJustPut h_ordersDone h_alarms g_length g_n g_bytes) := hD
      have hf := Option.some.inj hf
      subst hf
      exact my_reti () hx hb hr hlocks hK hP hD hS rfl dX5_cell_33
    · have hf := (if_neg c_2).symm.trans hf
      exact nn_abs hf
