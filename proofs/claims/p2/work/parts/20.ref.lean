theorem uu_X6_use_X6 : ∀ w ∈ u_ws RX6 TX6 25, w ∈ wsX6_use := fun _ h => List.mem_cons_of_mem _ (List.mem_append_right _ h)
def f_X6_use_L72 (m_allRows : Int32) (m_allColumns : Int32) : Nat → Int32 → Int32 → Int32 → Int32 → Int32 → (Nat → Int32) → Option (Int32 × Int32 × Int32 × Int32 × (Nat → Int32))
  | 0, _, _, _, _, _, _ => none
  | fu + 1, v2, z_m_rows, z_m_columns, z_m_cells, z_m_cursor, z_m_screen =>
    if z_m_cells ≤ v2 then
    some (z_m_rows, z_m_columns, z_m_cells, z_m_cursor, z_m_screen)
    else
    if v2 < 0 ∨ 5676 ≤ v2.toNatClampNeg then none else
    f_X6_use_L72 m_allRows m_allColumns fu (v2 + 1) z_m_rows z_m_columns z_m_cells z_m_cursor (upd z_m_screen v2.toNatClampNeg 0)
def f_X6_use_L23 (m_allRows : Int32) (m_allColumns : Int32) (v1 : Bool) (t1 : Int32) (z_m_rows : Int32) (z_m_columns : Int32) (z_m_cells : Int32) (z_m_cursor : Int32) (z_m_screen : Nat → Int32) : Option (Int32 × Int32 × Int32 × Int32 × (Nat → Int32)) :=
    if (b2i v1) = 0 then
    f_X6_use_L72 m_allRows m_allColumns FU 0 t1 m_allColumns (t1 * m_allColumns) 0 z_m_screen
    else
    if m_allColumns ≤ 80 then
    f_X6_use_L72 m_allRows m_allColumns FU 0 t1 m_allColumns (t1 * m_allColumns) 0 z_m_screen
    else
    f_X6_use_L72 m_allRows m_allColumns FU 0 t1 80 (t1 * 80) 0 z_m_screen
def f_X6_use (m_allRows : Int32) (m_allColumns : Int32) (m_rows : Int32) (m_columns : Int32) (m_cells : Int32) (m_cursor : Int32) (m_screen : Nat → Int32) (a1 : Bool) : Option (Int32 × Int32 × Int32 × Int32 × (Nat → Int32)) :=
    if (b2i a1) = 0 then
    f_X6_use_L23 m_allRows m_allColumns  a1 m_allRows m_rows m_columns m_cells m_cursor m_screen
    else
    if m_allRows ≤ 24 then
    f_X6_use_L23 m_allRows m_allColumns  a1 m_allRows m_rows m_columns m_cells m_cursor m_screen
    else
    f_X6_use_L23 m_allRows m_allColumns  a1 24 m_rows m_columns m_cells m_cursor m_screen
set_option maxHeartbeats 400000 in
set_option maxRecDepth 100000 in
theorem c_X6_use (l : Launch) (dC : Nat → ClassId) (dI : Nat → Nat → Nat) (cI : ClassId) (hM hR hT hZ : Nat) (m_allRows : Int32) (m_allColumns : Int32) (m_rows : Int32) (m_columns : Int32) (m_cells : Int32) (m_cursor : Int32) (m_locked : Bool) (m_insert : Bool) (m_alarms : Int32) (m_rejects : Int32) (m_latest : Int32) (m_thrown : Int32) (m_streamLong : Int32) (m_at : Int32) (m_place : Int32) (m_orders : Int32) (m_escaped : Bool) (m_broken : Bool) (m_signBefore : Bool) (m_free : Bool) (m_waitsLong : Int32) (m_cutOff : Bool) (m_screen : Nat → Int32) (m_stream : Nat → Int32) (m_waits : Nat → Int32) (sz : Nat) (a1 : Bool) (res : Int32 × Int32 × Int32 × Int32 × (Nat → Int32)) (hf : f_X6_use m_allRows m_allColumns m_rows m_columns m_cells m_cursor m_screen a1 = some res) : Met l yX6_use wsX6_use ({ frames := 0, cells := 0, slots := 0, locals := 0 }) (va_Pc [.ref hM, .int (b2i a1)] (my_Pre (dC, dI) [(cI, .int)] (wM hM hR hT hZ cI m_allRows m_allColumns m_rows m_columns m_cells m_cursor m_locked m_insert m_alarms m_rejects m_latest m_thrown m_streamLong m_at m_place m_orders m_escaped m_broken m_signBefore m_free m_waitsLong m_cutOff m_screen m_stream m_waits) sz)) (my_Qv (S := Unit) (dC, dI) [(cI, .int)] (fun _ => wM hM hR hT hZ cI m_allRows m_allColumns res.1 res.2.1 res.2.2.1 res.2.2.2.1 m_locked m_insert m_alarms m_rejects m_latest m_thrown m_streamLong m_at m_place m_orders m_escaped m_broken m_signBefore m_free m_waitsLong m_cutOff res.2.2.2.2 m_stream m_waits) (va_A (wM hM hR hT hZ cI m_allRows m_allColumns m_rows m_columns m_cells m_cursor m_locked m_insert m_alarms m_rejects m_latest m_thrown m_streamLong m_at m_place m_orders m_escaped m_broken m_signBefore m_free m_waitsLong m_cutOff m_screen m_stream m_waits) sz)) 0 0 (va_A (wM hM hR hT hZ cI m_allRows m_allColumns m_rows m_columns m_cells m_cursor m_locked m_insert m_alarms m_rejects m_latest m_thrown m_streamLong m_at m_place m_orders m_escaped m_broken m_signBefore m_free m_waitsLong m_cutOff m_screen m_stream m_waits) sz) := by
  refine my_enter (cc := cX6_use) (maxL := 3) (ret := none) (Qc := my_Qv (S := Unit) (dC, dI) [(cI, .int)] (fun _ => wM hM hR hT hZ cI m_allRows m_allColumns res.1 res.2.1 res.2.2.1 res.2.2.2.1 m_locked m_insert m_alarms m_rejects m_latest m_thrown m_streamLong m_at m_place m_orders m_escaped m_broken m_signBefore m_free m_waitsLong m_cutOff res.2.2.2.2 m_stream m_waits)) (by decide) rfl (Nat.le_of_ble_eq_true rfl) ?_
  intro p e s m below meth c A ls hx hb hr hml hts hown hlocks hnm hP hK hD hA hS hl
  have hown : s.vm.findClass RX6 = some m.cls := hown
  have hl : lv_has ls 3 [(0, .ref hM), (1, .int (b2i a1))] := hl
  have L72 : ∀ (fu : Nat) (v2 : Int32) (z_m_rows : Int32) (z_m_columns : Int32) (z_m_cells : Int32) (z_m_cursor : Int32) (z_m_screen : Nat → Int32)  (H : Heap) (locs : List Loc), f_X6_use_L72 m_allRows m_allColumns fu v2 z_m_rows z_m_columns z_m_cells z_m_cursor z_m_screen = some res → va_P (dC, dI) vwCl (wM hM hR hT hZ cI m_allRows m_allColumns z_m_rows z_m_columns z_m_cells z_m_cursor m_locked m_insert m_alarms m_rejects m_latest m_thrown m_streamLong m_at m_place m_orders m_escaped m_broken m_signBefore m_free m_waitsLong m_cutOff z_m_screen m_stream m_waits) H → va_D A (wM hM hR hT hZ cI m_allRows m_allColumns z_m_rows z_m_columns z_m_cells z_m_cursor m_locked m_insert m_alarms m_rejects m_latest m_thrown m_streamLong m_at m_place m_orders m_escaped m_broken m_signBefore m_free m_waitsLong m_cutOff z_m_screen m_stream m_waits) → va_S A s.heap H locs → ∀ (ls : Array Slot), lv_has ls 3 [(0, .ref hM), (2, .int v2)] → W p l e (headSpec wsX6_use ({ frames := 0, cells := 0, slots := 0, locals := 0 })).room s m ([.ref hM, .int (b2i a1)] : List Value).toArray below meth c H locs 0 0 (MQ below (my_Qv (S := Unit) (dC, dI) [(cI, .int)] (fun _ => wM hM hR hT hZ cI m_allRows m_allColumns res.1 res.2.1 res.2.2.1 res.2.2.2.1 m_locked m_insert m_alarms m_rejects m_latest m_thrown m_streamLong m_at m_place m_orders m_escaped m_broken m_signBefore m_free m_waitsLong m_cutOff res.2.2.2.2 m_stream m_waits) A) ([.ref hM, .int (b2i a1)] : List Value).toArray s 0 0 A) (F0 m 72 ls []) := by
    intro fu
    induction fu with
    | zero =>
      intro v2 z_m_rows z_m_columns z_m_cells z_m_cursor z_m_screen H locs hf
      rw [f_X6_use_L72.eq_1] at hf
      cases hf
    | succ fu ih =>
      intro v2 z_m_rows z_m_columns z_m_cells z_m_cursor z_m_screen H locs hf  hP hD hS ls hl
      rw [f_X6_use_L72.eq_2] at hf
      refine lv_iload_n hx hb dX6_use_72 rfl (lv_at hl 1 rfl) ?_
      refine lv_aload_n hx hb dX6_use_73 rfl (lv_at hl 0 rfl) ?_
      refine va_get (D := (dC, dI)) (ci := 7) (v := .int z_m_cells) (C := RX6) (T := TX6) (N := 25) hx hb hts uu_X6_use_X6 hown hK hP 0 rfl rfl 4 (by decide) (hts (.fieldLink RX6 46 "BlockScreenModel" "cells" "I") (List.mem_of_getElem? (i := 5) rfl)) (fun _ h9 => h9) rfl dX6_use_74 ?_
      refine lv_icmp_ge (tgt := 93) hx hb dX6_use_77 (by decide) (fun c_1 => ?_) (fun c_1 => ?_)
      · have hf := (if_pos c_1).symm.trans hf
        have hf := Option.some.inj hf
        subst hf
        exact my_retv () hx hb hr hlocks hK hP hD hS dX6_use_93
      · have hf := (if_neg c_1).symm.trans hf
        refine lv_aload_n hx hb dX6_use_80 rfl (lv_at hl 0 rfl) ?_
        refine va_get (D := (dC, dI)) (ci := 7) (v := .ref hR) (C := RX6) (T := TX6) (N := 25) hx hb hts uu_X6_use_X6 hown hK hP 0 rfl rfl 6 (by decide) (hts (.fieldLink RX6 7 "BlockScreenModel" "screen" "[I") (List.mem_of_getElem? (i := 7) rfl)) (fun _ h9 => h9) rfl dX6_use_81 ?_
        refine lv_iload_n hx hb dX6_use_84 rfl (lv_at hl 1 rfl) ?_
        refine lv_iconst (v := 0) hx hb dX6_use_85 (by decide) ?_
        rcases Classical.em (v2 < 0 ∨ 5676 ≤ v2.toNatClampNeg) with c_2 | c_2
        · exact nn_abs ((if_pos c_2).symm.trans hf)
        have hf := (if_neg c_2).symm.trans hf
        refine va_iast hx hb hK hP hD hS 1 0 rfl rfl c_2 dX6_use_86 (fun H locs hP hD hS => ?_)
        have hP : va_P (dC, dI) vwCl (wM hM hR hT hZ cI m_allRows m_allColumns z_m_rows z_m_columns z_m_cells z_m_cursor m_locked m_insert m_alarms m_rejects m_latest m_thrown m_streamLong m_at m_place m_orders m_escaped m_broken m_signBefore m_free m_waitsLong m_cutOff (upd z_m_screen v2.toNatClampNeg 0) m_stream m_waits) H := hP
        have hD : va_D A (wM hM hR hT hZ cI m_allRows m_allColumns z_m_rows z_m_columns z_m_cells z_m_cursor m_locked m_insert m_alarms m_rejects m_latest m_thrown m_streamLong m_at m_place m_orders m_escaped m_broken m_signBefore m_free m_waitsLong m_cutOff (upd z_m_screen v2.toNatClampNeg 0) m_stream m_waits) := hD
        refine lv_iinc (v := v2 + 1) (lv' := [(2, .int (v2 + 1)), (0, .ref hM)]) hx hb dX6_use_87 hl (k := 1) rfl rfl (by decide) rfl (fun ls hl => ?_)
        refine lv_goto (tgt := 72) hx hb dX6_use_90 (by decide) ?_
        exact ih (v2 + 1) z_m_rows z_m_columns z_m_cells z_m_cursor (upd z_m_screen v2.toNatClampNeg 0) _ _ hf  hP hD hS ls (lv_sub hl [1, 0] rfl)
  have L23 : ∀ (v1 : Bool) (t1 : Int32) (z_m_rows : Int32) (z_m_columns : Int32) (z_m_cells : Int32) (z_m_cursor : Int32) (z_m_screen : Nat → Int32) (H : Heap) (locs : List Loc), f_X6_use_L23 m_allRows m_allColumns v1 t1 z_m_rows z_m_columns z_m_cells z_m_cursor z_m_screen = some res → va_P (dC, dI) vwCl (wM hM hR hT hZ cI m_allRows m_allColumns z_m_rows z_m_columns z_m_cells z_m_cursor m_locked m_insert m_alarms m_rejects m_latest m_thrown m_streamLong m_at m_place m_orders m_escaped m_broken m_signBefore m_free m_waitsLong m_cutOff z_m_screen m_stream m_waits) H → va_D A (wM hM hR hT hZ cI m_allRows m_allColumns z_m_rows z_m_columns z_m_cells z_m_cursor m_locked m_insert m_alarms m_rejects m_latest m_thrown m_streamLong m_at m_place m_orders m_escaped m_broken m_signBefore m_free m_waitsLong m_cutOff z_m_screen m_stream m_waits) → va_S A s.heap H locs → ∀ (ls : Array Slot), lv_has ls 3 [(0, .ref hM), (1, .int (b2i v1))] → W p l e (headSpec wsX6_use ({ frames := 0, cells := 0, slots := 0, locals := 0 })).room s m ([.ref hM, .int (b2i a1)] : List Value).toArray below meth c H locs 0 0 (MQ below (my_Qv (S := Unit) (dC, dI) [(cI, .int)] (fun _ => wM hM hR hT hZ cI m_allRows m_allColumns res.1 res.2.1 res.2.2.1 res.2.2.2.1 m_locked m_insert m_alarms m_rejects m_latest m_thrown m_streamLong m_at m_place m_orders m_escaped m_broken m_signBefore m_free m_waitsLong m_cutOff res.2.2.2.2 m_stream m_waits) A) ([.ref hM, .int (b2i a1)] : List Value).toArray s 0 0 A) (F0 m 23 ls [.int t1, .ref hM]) := by
    intro v1 t1 z_m_rows z_m_columns z_m_cells z_m_cursor z_m_screen H locs hf  hP hD hS ls hl
    unfold f_X6_use_L23 at hf
    refine va_put (D := (dC, dI)) (ci := 7) (v := .int t1) (C := RX6) (T := TX6) (N := 25) hx hb hts uu_X6_use_X6 tyX6 tyX6_ok nmX6 hown hK hP hD hS 0 rfl rfl 2 (by decide) (hts (.fieldLink RX6 40 "BlockScreenModel" "rows" "I") (List.mem_of_getElem? (i := 2) rfl)) (fun _ h9 => h9) rfl (tyX6_ok 2 (by decide)) rfl rfl (Nat.le_of_ble_eq_true rfl) dX6_use_23 (fun H locs hP hD hS => ?_)
    have hP : va_P (dC, dI) vwCl (wM hM hR hT hZ cI m_allRows m_allColumns t1 z_m_columns z_m_cells z_m_cursor m_locked m_insert m_alarms m_rejects m_latest m_thrown m_streamLong m_at m_place m_orders m_escaped m_broken m_signBefore m_free m_waitsLong m_cutOff z_m_screen m_stream m_waits) H := hP
    have hD : va_D A (wM hM hR hT hZ cI m_allRows m_allColumns t1 z_m_columns z_m_cells z_m_cursor m_locked m_insert m_alarms m_rejects m_latest m_thrown m_streamLong m_at m_place m_orders m_escaped m_broken m_signBefore m_free m_waitsLong m_cutOff z_m_screen m_stream m_waits) := hD
    refine lv_aload_n hx hb dX6_use_26 rfl (lv_at hl 0 rfl) ?_
    refine lv_iload_n hx hb dX6_use_27 rfl (lv_at hl 1 rfl) ?_
    refine lv_if_eq (tgt := 45) hx hb dX6_use_28 (by decide) (fun c_3 => ?_) (fun c_3 => ?_)
    · have hf := (if_pos c_3).symm.trans hf
      refine lv_aload_n hx hb dX6_use_45 rfl (lv_at hl 0 rfl) ?_
      refine va_get (D := (dC, dI)) (ci := 7) (v := .int m_allColumns) (C := RX6) (T := TX6) (N := 25) hx hb hts uu_X6_use_X6 hown hK hP 0 rfl rfl 1 (by decide) (hts (.fieldLink RX6 30 "BlockScreenModel" "allColumns" "I") (List.mem_of_getElem? (i := 3) rfl)) (fun _ h9 => h9) rfl dX6_use_46 ?_
      refine va_put (D := (dC, dI)) (ci := 7) (v := .int m_allColumns) (C := RX6) (T := TX6) (N := 25) hx hb hts uu_X6_use_X6 tyX6 tyX6_ok nmX6 hown hK hP hD hS 0 rfl rfl 3 (by decide) (hts (.fieldLink RX6 43 "BlockScreenModel" "columns" "I") (List.mem_of_getElem? (i := 4) rfl)) (fun _ h9 => h9) rfl (tyX6_ok 3 (by decide)) rfl rfl (Nat.le_of_ble_eq_true rfl) dX6_use_49 (fun H locs hP hD hS => ?_)
      have hP : va_P (dC, dI) vwCl (wM hM hR hT hZ cI m_allRows m_allColumns t1 m_allColumns z_m_cells z_m_cursor m_locked m_insert m_alarms m_rejects m_latest m_thrown m_streamLong m_at m_place m_orders m_escaped m_broken m_signBefore m_free m_waitsLong m_cutOff z_m_screen m_stream m_waits) H := hP
      have hD : va_D A (wM hM hR hT hZ cI m_allRows m_allColumns t1 m_allColumns z_m_cells z_m_cursor m_locked m_insert m_alarms m_rejects m_latest m_thrown m_streamLong m_at m_place m_orders m_escaped m_broken m_signBefore m_free m_waitsLong m_cutOff z_m_screen m_stream m_waits) := hD
      refine lv_aload_n hx hb dX6_use_52 rfl (lv_at hl 0 rfl) ?_
      refine lv_aload_n hx hb dX6_use_53 rfl (lv_at hl 0 rfl) ?_
      refine va_get (D := (dC, dI)) (ci := 7) (v := .int t1) (C := RX6) (T := TX6) (N := 25) hx hb hts uu_X6_use_X6 hown hK hP 0 rfl rfl 2 (by decide) (hts (.fieldLink RX6 40 "BlockScreenModel" "rows" "I") (List.mem_of_getElem? (i := 2) rfl)) (fun _ h9 => h9) rfl dX6_use_54 ?_
      refine lv_aload_n hx hb dX6_use_57 rfl (lv_at hl 0 rfl) ?_
      refine va_get (D := (dC, dI)) (ci := 7) (v := .int m_allColumns) (C := RX6) (T := TX6) (N := 25) hx hb hts uu_X6_use_X6 hown hK hP 0 rfl rfl 3 (by decide) (hts (.fieldLink RX6 43 "BlockScreenModel" "columns" "I") (List.mem_of_getElem? (i := 4) rfl)) (fun _ h9 => h9) rfl dX6_use_58 ?_
      refine lv_imul hx hb dX6_use_61 ?_
      refine va_put (D := (dC, dI)) (ci := 7) (v := .int (t1 * m_allColumns)) (C := RX6) (T := TX6) (N := 25) hx hb hts uu_X6_use_X6 tyX6 tyX6_ok nmX6 hown hK hP hD hS 0 rfl rfl 4 (by decide) (hts (.fieldLink RX6 46 "BlockScreenModel" "cells" "I") (List.mem_of_getElem? (i := 5) rfl)) (fun _ h9 => h9) rfl (tyX6_ok 4 (by decide)) rfl rfl (Nat.le_of_ble_eq_true rfl) dX6_use_62 (fun H locs hP hD hS => ?_)
      have hP : va_P (dC, dI) vwCl (wM hM hR hT hZ cI m_allRows m_allColumns t1 m_allColumns (t1 * m_allColumns) z_m_cursor m_locked m_insert m_alarms m_rejects m_latest m_thrown m_streamLong m_at m_place m_orders m_escaped m_broken m_signBefore m_free m_waitsLong m_cutOff z_m_screen m_stream m_waits) H := hP
      have hD : va_D A (wM hM hR hT hZ cI m_allRows m_allColumns t1 m_allColumns (t1 * m_allColumns) z_m_cursor m_locked m_insert m_alarms m_rejects m_latest m_thrown m_streamLong m_at m_place m_orders m_escaped m_broken m_signBefore m_free m_waitsLong m_cutOff z_m_screen m_stream m_waits) := hD
      refine lv_aload_n hx hb dX6_use_65 rfl (lv_at hl 0 rfl) ?_
      refine lv_iconst (v := 0) hx hb dX6_use_66 (by decide) ?_
      refine va_put (D := (dC, dI)) (ci := 7) (v := .int 0) (C := RX6) (T := TX6) (N := 25) hx hb hts uu_X6_use_X6 tyX6 tyX6_ok nmX6 hown hK hP hD hS 0 rfl rfl 5 (by decide) (hts (.fieldLink RX6 49 "BlockScreenModel" "cursor" "I") (List.mem_of_getElem? (i := 6) rfl)) (fun _ h9 => h9) rfl (tyX6_ok 5 (by decide)) rfl rfl (Nat.le_of_ble_eq_true rfl) dX6_use_67 (fun H locs hP hD hS => ?_)
      have hP : va_P (dC, dI) vwCl (wM hM hR hT hZ cI m_allRows m_allColumns t1 m_allColumns (t1 * m_allColumns) 0 m_locked m_insert m_alarms m_rejects m_latest m_thrown m_streamLong m_at m_place m_orders m_escaped m_broken m_signBefore m_free m_waitsLong m_cutOff z_m_screen m_stream m_waits) H := hP
      have hD : va_D A (wM hM hR hT hZ cI m_allRows m_allColumns t1 m_allColumns (t1 * m_allColumns) 0 m_locked m_insert m_alarms m_rejects m_latest m_thrown m_streamLong m_at m_place m_orders m_escaped m_broken m_signBefore m_free m_waitsLong m_cutOff z_m_screen m_stream m_waits) := hD
      refine lv_iconst (v := 0) hx hb dX6_use_70 (by decide) ?_
      refine lv_istore_n (lv' := [(2, .int 0), (0, .ref hM), (1, .int (b2i v1))]) hx hb dX6_use_71 rfl hl (by decide) rfl (fun ls hl => ?_)
      exact L72 FU 0 t1 m_allColumns (t1 * m_allColumns) 0 z_m_screen _ _ hf  hP hD hS ls (lv_sub hl [1, 0] rfl)
    · have hf := (if_neg c_3).symm.trans hf
      refine lv_aload_n hx hb dX6_use_31 rfl (lv_at hl 0 rfl) ?_
      refine va_get (D := (dC, dI)) (ci := 7) (v := .int m_allColumns) (C := RX6) (T := TX6) (N := 25) hx hb hts uu_X6_use_X6 hown hK hP 0 rfl rfl 1 (by decide) (hts (.fieldLink RX6 30 "BlockScreenModel" "allColumns" "I") (List.mem_of_getElem? (i := 3) rfl)) (fun _ h9 => h9) rfl dX6_use_32 ?_
      refine lv_bipush (v := 80) hx hb dX6_use_35 (by decide) ?_
      refine lv_icmp_le (tgt := 45) hx hb dX6_use_37 (by decide) (fun c_4 => ?_) (fun c_4 => ?_)
      · have hf := (if_pos c_4).symm.trans hf
        refine lv_aload_n hx hb dX6_use_45 rfl (lv_at hl 0 rfl) ?_
        refine va_get (D := (dC, dI)) (ci := 7) (v := .int m_allColumns) (C := RX6) (T := TX6) (N := 25) hx hb hts uu_X6_use_X6 hown hK hP 0 rfl rfl 1 (by decide) (hts (.fieldLink RX6 30 "BlockScreenModel" "allColumns" "I") (List.mem_of_getElem? (i := 3) rfl)) (fun _ h9 => h9) rfl dX6_use_46 ?_
        refine va_put (D := (dC, dI)) (ci := 7) (v := .int m_allColumns) (C := RX6) (T := TX6) (N := 25) hx hb hts uu_X6_use_X6 tyX6 tyX6_ok nmX6 hown hK hP hD hS 0 rfl rfl 3 (by decide) (hts (.fieldLink RX6 43 "BlockScreenModel" "columns" "I") (List.mem_of_getElem? (i := 4) rfl)) (fun _ h9 => h9) rfl (tyX6_ok 3 (by decide)) rfl rfl (Nat.le_of_ble_eq_true rfl) dX6_use_49 (fun H locs hP hD hS => ?_)
        have hP : va_P (dC, dI) vwCl (wM hM hR hT hZ cI m_allRows m_allColumns t1 m_allColumns z_m_cells z_m_cursor m_locked m_insert m_alarms m_rejects m_latest m_thrown m_streamLong m_at m_place m_orders m_escaped m_broken m_signBefore m_free m_waitsLong m_cutOff z_m_screen m_stream m_waits) H := hP
        have hD : va_D A (wM hM hR hT hZ cI m_allRows m_allColumns t1 m_allColumns z_m_cells z_m_cursor m_locked m_insert m_alarms m_rejects m_latest m_thrown m_streamLong m_at m_place m_orders m_escaped m_broken m_signBefore m_free m_waitsLong m_cutOff z_m_screen m_stream m_waits) := hD
        refine lv_aload_n hx hb dX6_use_52 rfl (lv_at hl 0 rfl) ?_
        refine lv_aload_n hx hb dX6_use_53 rfl (lv_at hl 0 rfl) ?_
        refine va_get (D := (dC, dI)) (ci := 7) (v := .int t1) (C := RX6) (T := TX6) (N := 25) hx hb hts uu_X6_use_X6 hown hK hP 0 rfl rfl 2 (by decide) (hts (.fieldLink RX6 40 "BlockScreenModel" "rows" "I") (List.mem_of_getElem? (i := 2) rfl)) (fun _ h9 => h9) rfl dX6_use_54 ?_
        refine lv_aload_n hx hb dX6_use_57 rfl (lv_at hl 0 rfl) ?_
        refine va_get (D := (dC, dI)) (ci := 7) (v := .int m_allColumns) (C := RX6) (T := TX6) (N := 25) hx hb hts uu_X6_use_X6 hown hK hP 0 rfl rfl 3 (by decide) (hts (.fieldLink RX6 43 "BlockScreenModel" "columns" "I") (List.mem_of_getElem? (i := 4) rfl)) (fun _ h9 => h9) rfl dX6_use_58 ?_
        refine lv_imul hx hb dX6_use_61 ?_
        refine va_put (D := (dC, dI)) (ci := 7) (v := .int (t1 * m_allColumns)) (C := RX6) (T := TX6) (N := 25) hx hb hts uu_X6_use_X6 tyX6 tyX6_ok nmX6 hown hK hP hD hS 0 rfl rfl 4 (by decide) (hts (.fieldLink RX6 46 "BlockScreenModel" "cells" "I") (List.mem_of_getElem? (i := 5) rfl)) (fun _ h9 => h9) rfl (tyX6_ok 4 (by decide)) rfl rfl (Nat.le_of_ble_eq_true rfl) dX6_use_62 (fun H locs hP hD hS => ?_)
        have hP : va_P (dC, dI) vwCl (wM hM hR hT hZ cI m_allRows m_allColumns t1 m_allColumns (t1 * m_allColumns) z_m_cursor m_locked m_insert m_alarms m_rejects m_latest m_thrown m_streamLong m_at m_place m_orders m_escaped m_broken m_signBefore m_free m_waitsLong m_cutOff z_m_screen m_stream m_waits) H := hP
        have hD : va_D A (wM hM hR hT hZ cI m_allRows m_allColumns t1 m_allColumns (t1 * m_allColumns) z_m_cursor m_locked m_insert m_alarms m_rejects m_latest m_thrown m_streamLong m_at m_place m_orders m_escaped m_broken m_signBefore m_free m_waitsLong m_cutOff z_m_screen m_stream m_waits) := hD
        refine lv_aload_n hx hb dX6_use_65 rfl (lv_at hl 0 rfl) ?_
        refine lv_iconst (v := 0) hx hb dX6_use_66 (by decide) ?_
        refine va_put (D := (dC, dI)) (ci := 7) (v := .int 0) (C := RX6) (T := TX6) (N := 25) hx hb hts uu_X6_use_X6 tyX6 tyX6_ok nmX6 hown hK hP hD hS 0 rfl rfl 5 (by decide) (hts (.fieldLink RX6 49 "BlockScreenModel" "cursor" "I") (List.mem_of_getElem? (i := 6) rfl)) (fun _ h9 => h9) rfl (tyX6_ok 5 (by decide)) rfl rfl (Nat.le_of_ble_eq_true rfl) dX6_use_67 (fun H locs hP hD hS => ?_)
        have hP : va_P (dC, dI) vwCl (wM hM hR hT hZ cI m_allRows m_allColumns t1 m_allColumns (t1 * m_allColumns) 0 m_locked m_insert m_alarms m_rejects m_latest m_thrown m_streamLong m_at m_place m_orders m_escaped m_broken m_signBefore m_free m_waitsLong m_cutOff z_m_screen m_stream m_waits) H := hP
        have hD : va_D A (wM hM hR hT hZ cI m_allRows m_allColumns t1 m_allColumns (t1 * m_allColumns) 0 m_locked m_insert m_alarms m_rejects m_latest m_thrown m_streamLong m_at m_place m_orders m_escaped m_broken m_signBefore m_free m_waitsLong m_cutOff z_m_screen m_stream m_waits) := hD
        refine lv_iconst (v := 0) hx hb dX6_use_70 (by decide) ?_
        refine lv_istore_n (lv' := [(2, .int 0), (0, .ref hM), (1, .int (b2i v1))]) hx hb dX6_use_71 rfl hl (by decide) rfl (fun ls hl => ?_)
        exact L72 FU 0 t1 m_allColumns (t1 * m_allColumns) 0 z_m_screen _ _ hf  hP hD hS ls (lv_sub hl [1, 0] rfl)
      · have hf := (if_neg c_4).symm.trans hf
        refine lv_bipush (v := 80) hx hb dX6_use_40 (by decide) ?_
        refine lv_goto (tgt := 49) hx hb dX6_use_42 (by decide) ?_
        refine va_put (D := (dC, dI)) (ci := 7) (v := .int 80) (C := RX6) (T := TX6) (N := 25) hx hb hts uu_X6_use_X6 tyX6 tyX6_ok nmX6 hown hK hP hD hS 0 rfl rfl 3 (by decide) (hts (.fieldLink RX6 43 "BlockScreenModel" "columns" "I") (List.mem_of_getElem? (i := 4) rfl)) (fun _ h9 => h9) rfl (tyX6_ok 3 (by decide)) rfl rfl (Nat.le_of_ble_eq_true rfl) dX6_use_49 (fun H locs hP hD hS => ?_)
        have hP : va_P (dC, dI) vwCl (wM hM hR hT hZ cI m_allRows m_allColumns t1 80 z_m_cells z_m_cursor m_locked m_insert m_alarms m_rejects m_latest m_thrown m_streamLong m_at m_place m_orders m_escaped m_broken m_signBefore m_free m_waitsLong m_cutOff z_m_screen m_stream m_waits) H := hP
        have hD : va_D A (wM hM hR hT hZ cI m_allRows m_allColumns t1 80 z_m_cells z_m_cursor m_locked m_insert m_alarms m_rejects m_latest m_thrown m_streamLong m_at m_place m_orders m_escaped m_broken m_signBefore m_free m_waitsLong m_cutOff z_m_screen m_stream m_waits) := hD
        refine lv_aload_n hx hb dX6_use_52 rfl (lv_at hl 0 rfl) ?_
        refine lv_aload_n hx hb dX6_use_53 rfl (lv_at hl 0 rfl) ?_
        refine va_get (D := (dC, dI)) (ci := 7) (v := .int t1) (C := RX6) (T := TX6) (N := 25) hx hb hts uu_X6_use_X6 hown hK hP 0 rfl rfl 2 (by decide) (hts (.fieldLink RX6 40 "BlockScreenModel" "rows" "I") (List.mem_of_getElem? (i := 2) rfl)) (fun _ h9 => h9) rfl dX6_use_54 ?_
        refine lv_aload_n hx hb dX6_use_57 rfl (lv_at hl 0 rfl) ?_
        refine va_get (D := (dC, dI)) (ci := 7) (v := .int 80) (C := RX6) (T := TX6) (N := 25) hx hb hts uu_X6_use_X6 hown hK hP 0 rfl rfl 3 (by decide) (hts (.fieldLink RX6 43 "BlockScreenModel" "columns" "I") (List.mem_of_getElem? (i := 4) rfl)) (fun _ h9 => h9) rfl dX6_use_58 ?_
        refine lv_imul hx hb dX6_use_61 ?_
        refine va_put (D := (dC, dI)) (ci := 7) (v := .int (t1 * 80)) (C := RX6) (T := TX6) (N := 25) hx hb hts uu_X6_use_X6 tyX6 tyX6_ok nmX6 hown hK hP hD hS 0 rfl rfl 4 (by decide) (hts (.fieldLink RX6 46 "BlockScreenModel" "cells" "I") (List.mem_of_getElem? (i := 5) rfl)) (fun _ h9 => h9) rfl (tyX6_ok 4 (by decide)) rfl rfl (Nat.le_of_ble_eq_true rfl) dX6_use_62 (fun H locs hP hD hS => ?_)
        have hP : va_P (dC, dI) vwCl (wM hM hR hT hZ cI m_allRows m_allColumns t1 80 (t1 * 80) z_m_cursor m_locked m_insert m_alarms m_rejects m_latest m_thrown m_streamLong m_at m_place m_orders m_escaped m_broken m_signBefore m_free m_waitsLong m_cutOff z_m_screen m_stream m_waits) H := hP
        have hD : va_D A (wM hM hR hT hZ cI m_allRows m_allColumns t1 80 (t1 * 80) z_m_cursor m_locked m_insert m_alarms m_rejects m_latest m_thrown m_streamLong m_at m_place m_orders m_escaped m_broken m_signBefore m_free m_waitsLong m_cutOff z_m_screen m_stream m_waits) := hD
        refine lv_aload_n hx hb dX6_use_65 rfl (lv_at hl 0 rfl) ?_
        refine lv_iconst (v := 0) hx hb dX6_use_66 (by decide) ?_
        refine va_put (D := (dC, dI)) (ci := 7) (v := .int 0) (C := RX6) (T := TX6) (N := 25) hx hb hts uu_X6_use_X6 tyX6 tyX6_ok nmX6 hown hK hP hD hS 0 rfl rfl 5 (by decide) (hts (.fieldLink RX6 49 "BlockScreenModel" "cursor" "I") (List.mem_of_getElem? (i := 6) rfl)) (fun _ h9 => h9) rfl (tyX6_ok 5 (by decide)) rfl rfl (Nat.le_of_ble_eq_true rfl) dX6_use_67 (fun H locs hP hD hS => ?_)
        have hP : va_P (dC, dI) vwCl (wM hM hR hT hZ cI m_allRows m_allColumns t1 80 (t1 * 80) 0 m_locked m_insert m_alarms m_rejects m_latest m_thrown m_streamLong m_at m_place m_orders m_escaped m_broken m_signBefore m_free m_waitsLong m_cutOff z_m_screen m_stream m_waits) H := hP
        have hD : va_D A (wM hM hR hT hZ cI m_allRows m_allColumns t1 80 (t1 * 80) 0 m_locked m_insert m_alarms m_rejects m_latest m_thrown m_streamLong m_at m_place m_orders m_escaped m_broken m_signBefore m_free m_waitsLong m_cutOff z_m_screen m_stream m_waits) := hD
        refine lv_iconst (v := 0) hx hb dX6_use_70 (by decide) ?_
        refine lv_istore_n (lv' := [(2, .int 0), (0, .ref hM), (1, .int (b2i v1))]) hx hb dX6_use_71 rfl hl (by decide) rfl (fun ls hl => ?_)
        exact L72 FU 0 t1 80 (t1 * 80) 0 z_m_screen _ _ hf  hP hD hS ls (lv_sub hl [1, 0] rfl)
  unfold f_X6_use at hf
  refine lv_aload_n hx hb dX6_use_0 rfl (lv_at hl 0 rfl) ?_
  refine lv_iload_n hx hb dX6_use_1 rfl (lv_at hl 1 rfl) ?_
  refine lv_if_eq (tgt := 19) hx hb dX6_use_2 (by decide) (fun c_5 => ?_) (fun c_5 => ?_)
  · have hf := (if_pos c_5).symm.trans hf
    refine lv_aload_n hx hb dX6_use_19 rfl (lv_at hl 0 rfl) ?_
    refine va_get (D := (dC, dI)) (ci := 7) (v := .int m_allRows) (C := RX6) (T := TX6) (N := 25) hx hb hts uu_X6_use_X6 hown hK hP 0 rfl rfl 0 (by decide) (hts (.fieldLink RX6 27 "BlockScreenModel" "allRows" "I") (List.mem_of_getElem? (i := 1) rfl)) (fun _ h9 => h9) rfl dX6_use_20 ?_
    exact L23  a1 m_allRows m_rows m_columns m_cells m_cursor m_screen _ _ hf  hP hD hS ls (lv_sub hl [0, 1] rfl)
  · have hf := (if_neg c_5).symm.trans hf
    refine lv_aload_n hx hb dX6_use_5 rfl (lv_at hl 0 rfl) ?_
    refine va_get (D := (dC, dI)) (ci := 7) (v := .int m_allRows) (C := RX6) (T := TX6) (N := 25) hx hb hts uu_X6_use_X6 hown hK hP 0 rfl rfl 0 (by decide) (hts (.fieldLink RX6 27 "BlockScreenModel" "allRows" "I") (List.mem_of_getElem? (i := 1) rfl)) (fun _ h9 => h9) rfl dX6_use_6 ?_
    refine lv_bipush (v := 24) hx hb dX6_use_9 (by decide) ?_
    refine lv_icmp_le (tgt := 19) hx hb dX6_use_11 (by decide) (fun c_6 => ?_) (fun c_6 => ?_)
    · have hf := (if_pos c_6).symm.trans hf
      refine lv_aload_n hx hb dX6_use_19 rfl (lv_at hl 0 rfl) ?_
      refine va_get (D := (dC, dI)) (ci := 7) (v := .int m_allRows) (C := RX6) (T := TX6) (N := 25) hx hb hts uu_X6_use_X6 hown hK hP 0 rfl rfl 0 (by decide) (hts (.fieldLink RX6 27 "BlockScreenModel" "allRows" "I") (List.mem_of_getElem? (i := 1) rfl)) (fun _ h9 => h9) rfl dX6_use_20 ?_
      exact L23  a1 m_allRows m_rows m_columns m_cells m_cursor m_screen _ _ hf  hP hD hS ls (lv_sub hl [0, 1] rfl)
    · have hf := (if_neg c_6).symm.trans hf
      refine lv_bipush (v := 24) hx hb dX6_use_14 (by decide) ?_
      refine lv_goto (tgt := 23) hx hb dX6_use_16 (by decide) ?_
      exact L23  a1 24 m_rows m_columns m_cells m_cursor m_screen _ _ hf  hP hD hS ls (lv_sub hl [0, 1] rfl)

theorem uu_X6_round_X6 : ∀ w ∈ u_ws RX6 TX6 25, w ∈ wsX6_round := fun _ h => List.mem_cons_of_mem _ (List.mem_append_right _ h)
def f_X6_round (m_cells : Int32) (a1 : Int32) : Option (Int32) :=
    if m_cells = 0 then none else
    some (((a1 - a1 / m_cells * m_cells) + m_cells) - ((a1 - a1 / m_cells * m_cells) + m_cells) / m_cells * m_cells)
set_option maxHeartbeats 400000 in
set_option maxRecDepth 100000 in
theorem c_X6_round (l : Launch) (dC : Nat → ClassId) (dI : Nat → Nat → Nat) (cI : ClassId) (hM hR hT hZ : Nat) (m_allRows : Int32) (m_allColumns : Int32) (m_rows : Int32) (m_columns : Int32) (m_cells : Int32) (m_cursor : Int32) (m_locked : Bool) (m_insert : Bool) (m_alarms : Int32) (m_rejects : Int32) (m_latest : Int32) (m_thrown : Int32) (m_streamLong : Int32) (m_at : Int32) (m_place : Int32) (m_orders : Int32) (m_escaped : Bool) (m_broken : Bool) (m_signBefore : Bool) (m_free : Bool) (m_waitsLong : Int32) (m_cutOff : Bool) (m_screen : Nat → Int32) (m_stream : Nat → Int32) (m_waits : Nat → Int32) (sz : Nat) (a1 : Int32) (res : Int32) (hf : f_X6_round m_cells a1 = some res) : Met l yX6_round wsX6_round ({ frames := 0, cells := 0, slots := 0, locals := 0 }) (va_Pc [.ref hM, .int a1] (my_Pre (dC, dI) [(cI, .int)] (wM hM hR hT hZ cI m_allRows m_allColumns m_rows m_columns m_cells m_cursor m_locked m_insert m_alarms m_rejects m_latest m_thrown m_streamLong m_at m_place m_orders m_escaped m_broken m_signBefore m_free m_waitsLong m_cutOff m_screen m_stream m_waits) sz)) (my_Qi (S := Unit) (dC, dI) [(cI, .int)] res (fun _ => wM hM hR hT hZ cI m_allRows m_allColumns m_rows m_columns m_cells m_cursor m_locked m_insert m_alarms m_rejects m_latest m_thrown m_streamLong m_at m_place m_orders m_escaped m_broken m_signBefore m_free m_waitsLong m_cutOff m_screen m_stream m_waits) (va_A (wM hM hR hT hZ cI m_allRows m_allColumns m_rows m_columns m_cells m_cursor m_locked m_insert m_alarms m_rejects m_latest m_thrown m_streamLong m_at m_place m_orders m_escaped m_broken m_signBefore m_free m_waitsLong m_cutOff m_screen m_stream m_waits) sz)) 0 0 (va_A (wM hM hR hT hZ cI m_allRows m_allColumns m_rows m_columns m_cells m_cursor m_locked m_insert m_alarms m_rejects m_latest m_thrown m_streamLong m_at m_place m_orders m_escaped m_broken m_signBefore m_free m_waitsLong m_cutOff m_screen m_stream m_waits) sz) := by
  refine my_enter (cc := cX6_round) (maxL := 2) (ret := (some .int)) (Qc := my_Qi (S := Unit) (dC, dI) [(cI, .int)] res (fun _ => wM hM hR hT hZ cI m_allRows m_allColumns m_rows m_columns m_cells m_cursor m_locked m_insert m_alarms m_rejects m_latest m_thrown m_streamLong m_at m_place m_orders m_escaped m_broken m_signBefore m_free m_waitsLong m_cutOff m_screen m_stream m_waits)) (by decide) rfl (Nat.le_of_ble_eq_true rfl) ?_
  intro p e s m below meth c A ls hx hb hr hml hts hown hlocks hnm hP hK hD hA hS hl
  have hown : s.vm.findClass RX6 = some m.cls := hown
  have hl : lv_has ls 2 [(0, .ref hM), (1, .int a1)] := hl
  unfold f_X6_round at hf
  refine lv_iload_n hx hb dX6_round_0 rfl (lv_at hl 1 rfl) ?_
  refine lv_aload_n hx hb dX6_round_1 rfl (lv_at hl 0 rfl) ?_
  refine va_get (D := (dC, dI)) (ci := 7) (v := .int m_cells) (C := RX6) (T := TX6) (N := 25) hx hb hts uu_X6_round_X6 hown hK hP 0 rfl rfl 4 (by decide) (hts (.fieldLink RX6 46 "BlockScreenModel" "cells" "I") (List.mem_of_getElem? (i := 1) rfl)) (fun _ h9 => h9) rfl dX6_round_2 ?_
  rcases Classical.em (m_cells = 0) with c_1 | c_1
  · exact nn_abs ((if_pos c_1).symm.trans hf)
  have hf := (if_neg c_1).symm.trans hf
  refine lv_irem hx hb dX6_round_5 c_1 ?_
  refine lv_aload_n hx hb dX6_round_6 rfl (lv_at hl 0 rfl) ?_
  refine va_get (D := (dC, dI)) (ci := 7) (v := .int m_cells) (C := RX6) (T := TX6) (N := 25) hx hb hts uu_X6_round_X6 hown hK hP 0 rfl rfl 4 (by decide) (hts (.fieldLink RX6 46 "BlockScreenModel" "cells" "I") (List.mem_of_getElem? (i := 1) rfl)) (fun _ h9 => h9) rfl dX6_round_7 ?_
  refine lv_iadd hx hb dX6_round_10 ?_
  refine lv_aload_n hx hb dX6_round_11 rfl (lv_at hl 0 rfl) ?_
  refine va_get (D := (dC, dI)) (ci := 7) (v := .int m_cells) (C := RX6) (T := TX6) (N := 25) hx hb hts uu_X6_round_X6 hown hK hP 0 rfl rfl 4 (by decide) (hts (.fieldLink RX6 46 "BlockScreenModel" "cells" "I") (List.mem_of_getElem? (i := 1) rfl)) (fun _ h9 => h9) rfl dX6_round_12 ?_
  refine lv_irem hx hb dX6_round_15 c_1 ?_
  have hf := Option.some.inj hf
  subst hf
  exact my_reti () hx hb hr hlocks hK hP hD hS rfl dX6_round_16

theorem uu_X6_isAttribute_X6 : ∀ w ∈ u_ws RX6 TX6 25, w ∈ wsX6_isAttribute := fun _ h => List.mem_cons_of_mem _ (List.mem_append_right _ h)
def f_X6_isAttribute (m_screen : Nat → Int32) (a1 : Int32) : Option (Bool) :=
    if a1 < 0 ∨ 5676 ≤ a1.toNatClampNeg then none else
    if (m_screen a1.toNatClampNeg) < 256 then
    some false
    else
    some true
set_option maxHeartbeats 400000 in
set_option maxRecDepth 100000 in
theorem c_X6_isAttribute (l : Launch) (dC : Nat → ClassId) (dI : Nat → Nat → Nat) (cI : ClassId) (hM hR hT hZ : Nat) (m_allRows : Int32) (m_allColumns : Int32) (m_rows : Int32) (m_columns : Int32) (m_cells : Int32) (m_cursor : Int32) (m_locked : Bool) (m_insert : Bool) (m_alarms : Int32) (m_rejects : Int32) (m_latest : Int32) (m_thrown : Int32) (m_streamLong : Int32) (m_at : Int32) (m_place : Int32) (m_orders : Int32) (m_escaped : Bool) (m_broken : Bool) (m_signBefore : Bool) (m_free : Bool) (m_waitsLong : Int32) (m_cutOff : Bool) (m_screen : Nat → Int32) (m_stream : Nat → Int32) (m_waits : Nat → Int32) (sz : Nat) (a1 : Int32) (res : Bool) (hf : f_X6_isAttribute m_screen a1 = some res) : Met l yX6_isAttribute wsX6_isAttribute ({ frames := 0, cells := 0, slots := 0, locals := 0 }) (va_Pc [.ref hM, .int a1] (my_Pre (dC, dI) [(cI, .int)] (wM hM hR hT hZ cI m_allRows m_allColumns m_rows m_columns m_cells m_cursor m_locked m_insert m_alarms m_rejects m_latest m_thrown m_streamLong m_at m_place m_orders m_escaped m_broken m_signBefore m_free m_waitsLong m_cutOff m_screen m_stream m_waits) sz)) (my_Qi (S := Unit) (dC, dI) [(cI, .int)] (b2i res) (fun _ => wM hM hR hT hZ cI m_allRows m_allColumns m_rows m_columns m_cells m_cursor m_locked m_insert m_alarms m_rejects m_latest m_thrown m_streamLong m_at m_place m_orders m_escaped m_broken m_signBefore m_free m_waitsLong m_cutOff m_screen m_stream m_waits) (va_A (wM hM hR hT hZ cI m_allRows m_allColumns m_rows m_columns m_cells m_cursor m_locked m_insert m_alarms m_rejects m_latest m_thrown m_streamLong m_at m_place m_orders m_escaped m_broken m_signBefore m_free m_waitsLong m_cutOff m_screen m_stream m_waits) sz)) 0 0 (va_A (wM hM hR hT hZ cI m_allRows m_allColumns m_rows m_columns m_cells m_cursor m_locked m_insert m_alarms m_rejects m_latest m_thrown m_streamLong m_at m_place m_orders m_escaped m_broken m_signBefore m_free m_waitsLong m_cutOff m_screen m_stream m_waits) sz) := by
  refine my_enter (cc := cX6_isAttribute) (maxL := 2) (ret := (some .boolean)) (Qc := my_Qi (S := Unit) (dC, dI) [(cI, .int)] (b2i res) (fun _ => wM hM hR hT hZ cI m_allRows m_allColumns m_rows m_columns m_cells m_cursor m_locked m_insert m_alarms m_rejects m_latest m_thrown m_streamLong m_at m_place m_orders m_escaped m_broken m_signBefore m_free m_waitsLong m_cutOff m_screen m_stream m_waits)) (by decide) rfl (Nat.le_of_ble_eq_true rfl) ?_
  intro p e s m below meth c A ls hx hb hr hml hts hown hlocks hnm hP hK hD hA hS hl
  have hown : s.vm.findClass RX6 = some m.cls := hown
  have hl : lv_has ls 2 [(0, .ref hM), (1, .int a1)] := hl
  unfold f_X6_isAttribute at hf
  refine lv_aload_n hx hb dX6_isAttribute_0 rfl (lv_at hl 0 rfl) ?_
  refine va_get (D := (dC, dI)) (ci := 7) (v := .ref hR) (C := RX6) (T := TX6) (N := 25) hx hb hts uu_X6_isAttribute_X6 hown hK hP 0 rfl rfl 6 (by decide) (hts (.fieldLink RX6 7 "BlockScreenModel" "screen" "[I") (List.mem_of_getElem? (i := 1) rfl)) (fun _ h9 => h9) rfl dX6_isAttribute_1 ?_
  refine lv_iload_n hx hb dX6_isAttribute_4 rfl (lv_at hl 1 rfl) ?_
  rcases Classical.em (a1 < 0 ∨ 5676 ≤ a1.toNatClampNeg) with c_1 | c_1
  · exact nn_abs ((if_pos c_1).symm.trans hf)
  have hf := (if_neg c_1).symm.trans hf
  refine va_iald hx hb hK hP 1 0 rfl rfl c_1 dX6_isAttribute_5 ?_
  refine lv_sipush (v := 256) hx hb dX6_isAttribute_6 (by decide) ?_
  refine lv_icmp_lt (tgt := 16) hx hb dX6_isAttribute_9 (by decide) (fun c_2 => ?_) (fun c_2 => ?_)
  · have hf := (if_pos c_2).symm.trans hf
    refine lv_iconst (v := 0) hx hb dX6_isAttribute_16 (by decide) ?_
    have hf := Option.some.inj hf
    subst hf
    exact my_retz () hx hb hr hlocks rfl hK hP hD hS rfl dX6_isAttribute_17
  · have hf := (if_neg c_2).symm.trans hf
    refine lv_iconst (v := 1) hx hb dX6_isAttribute_12 (by decide) ?_
    refine lv_goto (tgt := 17) hx hb dX6_isAttribute_13 (by decide) ?_
    have hf := Option.some.inj hf
    subst hf
    exact my_retz () hx hb hr hlocks rfl hK hP hD hS rfl dX6_isAttribute_17

theorem uu_X6_home_X6 : ∀ w ∈ u_ws RX6 TX6 25, w ∈ wsX6_home := fun _ h => List.mem_cons_of_mem _ (List.mem_append_right _ h)
def f_X6_home_L2 (m_cells : Int32) (m_screen : Nat → Int32) : Nat → Int32 → Int32 → Option (Int32)
  | 0, _, _ => none
  | fu + 1, v1, v2 =>
    if m_cells ≤ v2 then
    some (-1)
    else
    Option.bind (f_X6_round m_cells (v1 - v2)) (fun r_2 =>
    Option.bind (f_X6_isAttribute m_screen r_2) (fun r_3 =>
    if (b2i r_3) = 0 then
    f_X6_home_L2 m_cells m_screen fu v1 (v2 + 1)
    else
    Option.bind (f_X6_round m_cells (v1 - v2)) (fun r_5 =>
    some r_5)))
def f_X6_home (m_cells : Int32) (m_screen : Nat → Int32) (a1 : Int32) : Option (Int32) :=
    f_X6_home_L2 m_cells m_screen FU a1 0
set_option maxHeartbeats 400000 in
set_option maxRecDepth 100000 in
theorem c_X6_home (l : Launch) (dC : Nat → ClassId) (dI : Nat → Nat → Nat) (cI : ClassId) (hM hR hT hZ : Nat) (m_allRows : Int32) (m_allColumns : Int32) (m_rows : Int32) (m_columns : Int32) (m_cells : Int32) (m_cursor : Int32) (m_locked : Bool) (m_insert : Bool) (m_alarms : Int32) (m_rejects : Int32) (m_latest : Int32) (m_thrown : Int32) (m_streamLong : Int32) (m_at : Int32) (m_place : Int32) (m_orders : Int32) (m_escaped : Bool) (m_broken : Bool) (m_signBefore : Bool) (m_free : Bool) (m_waitsLong : Int32) (m_cutOff : Bool) (m_screen : Nat → Int32) (m_stream : Nat → Int32) (m_waits : Nat → Int32) (sz : Nat) (a1 : Int32) (res : Int32) (hf : f_X6_home m_cells m_screen a1 = some res) : Met l yX6_home wsX6_home ({ frames := 1, cells := 0, slots := 0, locals := 21 }) (va_Pc [.ref hM, .int a1] (my_Pre (dC, dI) [(cI, .int)] (wM hM hR hT hZ cI m_allRows m_allColumns m_rows m_columns m_cells m_cursor m_locked m_insert m_alarms m_rejects m_latest m_thrown m_streamLong m_at m_place m_orders m_escaped m_broken m_signBefore m_free m_waitsLong m_cutOff m_screen m_stream m_waits) sz)) (my_Qi (S := Unit) (dC, dI) [(cI, .int)] res (fun _ => wM hM hR hT hZ cI m_allRows m_allColumns m_rows m_columns m_cells m_cursor m_locked m_insert m_alarms m_rejects m_latest m_thrown m_streamLong m_at m_place m_orders m_escaped m_broken m_signBefore m_free m_waitsLong m_cutOff m_screen m_stream m_waits) (va_A (wM hM hR hT hZ cI m_allRows m_allColumns m_rows m_columns m_cells m_cursor m_locked m_insert m_alarms m_rejects m_latest m_thrown m_streamLong m_at m_place m_orders m_escaped m_broken m_signBefore m_free m_waitsLong m_cutOff m_screen m_stream m_waits) sz)) 0 0 (va_A (wM hM hR hT hZ cI m_allRows m_allColumns m_rows m_columns m_cells m_cursor m_locked m_insert m_alarms m_rejects m_latest m_thrown m_streamLong m_at m_place m_orders m_escaped m_broken m_signBefore m_free m_waitsLong m_cutOff m_screen m_stream m_waits) sz) := by
  refine my_enter (cc := cX6_home) (maxL := 3) (ret := (some .int)) (Qc := my_Qi (S := Unit) (dC, dI) [(cI, .int)] res (fun _ => wM hM hR hT hZ cI m_allRows m_allColumns m_rows m_columns m_cells m_cursor m_locked m_insert m_alarms m_rejects m_latest m_thrown m_streamLong m_at m_place m_orders m_escaped m_broken m_signBefore m_free m_waitsLong m_cutOff m_screen m_stream m_waits)) (by decide) rfl (Nat.le_of_ble_eq_true rfl) ?_
  intro p e s m below meth c A ls hx hb hr hml hts hown hlocks hnm hP hK hD hA hS hl
  have hown : s.vm.findClass RX6 = some m.cls := hown
  have hl : lv_has ls 3 [(0, .ref hM), (1, .int a1)] := hl
  have L2 : ∀ (fu : Nat) (v1 : Int32) (v2 : Int32)   (H : Heap) (locs : List Loc), f_X6_home_L2 m_cells m_screen fu v1 v2 = some res → va_P (dC, dI) vwCl (wM hM hR hT hZ cI m_allRows m_allColumns m_rows m_columns m_cells m_cursor m_locked m_insert m_alarms m_rejects m_latest m_thrown m_streamLong m_at m_place m_orders m_escaped m_broken m_signBefore m_free m_waitsLong m_cutOff m_screen m_stream m_waits) H → va_D A (wM hM hR hT hZ cI m_allRows m_allColumns m_rows m_columns m_cells m_cursor m_locked m_insert m_alarms m_rejects m_latest m_thrown m_streamLong m_at m_place m_orders m_escaped m_broken m_signBefore m_free m_waitsLong m_cutOff m_screen m_stream m_waits) → va_S A s.heap H locs → ∀ (ls : Array Slot), lv_has ls 3 [(0, .ref hM), (1, .int v1), (2, .int v2)] → W p l e (headSpec wsX6_home ({ frames := 1, cells := 0, slots := 0, locals := 21 })).room s m ([.ref hM, .int a1] : List Value).toArray below meth c H locs 0 0 (MQ below (my_Qi (S := Unit) (dC, dI) [(cI, .int)] res (fun _ => wM hM hR hT hZ cI m_allRows m_allColumns m_rows m_columns m_cells m_cursor m_locked m_insert m_alarms m_rejects m_latest m_thrown m_streamLong m_at m_place m_orders m_escaped m_broken m_signBefore m_free m_waitsLong m_cutOff m_screen m_stream m_waits) A) ([.ref hM, .int a1] : List Value).toArray s 0 0 A) (F0 m 2 ls []) := by
    intro fu
    induction fu with
    | zero =>
      intro v1 v2 H locs hf
      rw [f_X6_home_L2.eq_1] at hf
      cases hf
    | succ fu ih =>
      intro v1 v2 H locs hf  hP hD hS ls hl
      rw [f_X6_home_L2.eq_2] at hf
      refine lv_iload_n hx hb dX6_home_2 rfl (lv_at hl 2 rfl) ?_
      refine lv_aload_n hx hb dX6_home_3 rfl (lv_at hl 0 rfl) ?_
      refine va_get (D := (dC, dI)) (ci := 7) (v := .int m_cells) (C := RX6) (T := TX6) (N := 25) hx hb hts uu_X6_home_X6 hown hK hP 0 rfl rfl 4 (by decide) (hts (.fieldLink RX6 46 "BlockScreenModel" "cells" "I") (List.mem_of_getElem? (i := 1) rfl)) (fun _ h9 => h9) rfl dX6_home_4 ?_
      refine lv_icmp_ge (tgt := 38) hx hb dX6_home_7 (by decide) (fun c_1 => ?_) (fun c_1 => ?_)
      · have hf := (if_pos c_1).symm.trans hf
        refine lv_iconst (v := (-1)) hx hb dX6_home_38 (by decide) ?_
        have hf := Option.some.inj hf
        subst hf
        exact my_reti () hx hb hr hlocks hK hP hD hS rfl dX6_home_39
      · have hf := (if_neg c_1).symm.trans hf
        refine lv_aload_n hx hb dX6_home_10 rfl (lv_at hl 0 rfl) ?_
        refine lv_aload_n hx hb dX6_home_11 rfl (lv_at hl 0 rfl) ?_
        refine lv_iload_n hx hb dX6_home_12 rfl (lv_at hl 1 rfl) ?_
        refine lv_iload_n hx hb dX6_home_13 rfl (lv_at hl 2 rfl) ?_
        refine lv_isub hx hb dX6_home_14 ?_
        obtain ⟨r_2, hq_2, hf⟩ := ob_inv hf
        refine my_cVi (As := [.int (v1 - v2)]) (rest := [.ref hM]) ⟨hx, hb, hml, hown, hts⟩ (c_X6_round l dC dI cI hM hR hT hZ m_allRows m_allColumns m_rows m_columns m_cells m_cursor m_locked m_insert m_alarms m_rejects m_latest m_thrown m_streamLong m_at m_place m_orders m_escaped m_broken m_signBefore m_free m_waitsLong m_cutOff m_screen m_stream m_waits _ (v1 - v2) r_2 hq_2) (cwV 1 hts gX6_home_X6_round rfl rfl rfl (by decide +kernel) ⟨Nat.le_of_ble_eq_true rfl, Nat.le_of_ble_eq_true rfl⟩) hK hP hD hS hA 0 7 rfl rfl rfl hl.1 rfl (Nat.le_of_ble_eq_true rfl) dX6_home_15 ⟨Nat.zero_le _, Nat.zero_le _⟩ (fun _ H locs hP hD hS => ?_)
        have hP : va_P (dC, dI) vwCl (wM hM hR hT hZ cI m_allRows m_allColumns m_rows m_columns m_cells m_cursor m_locked m_insert m_alarms m_rejects m_latest m_thrown m_streamLong m_at m_place m_orders m_escaped m_broken m_signBefore m_free m_waitsLong m_cutOff m_screen m_stream m_waits) H := hP
        have hD : va_D A (wM hM hR hT hZ cI m_allRows m_allColumns m_rows m_columns m_cells m_cursor m_locked m_insert m_alarms m_rejects m_latest m_thrown m_streamLong m_at m_place m_orders m_escaped m_broken m_signBefore m_free m_waitsLong m_cutOff m_screen m_stream m_waits) := hD
        obtain ⟨r_3, hq_3, hf⟩ := ob_inv hf
        refine my_cVi (As := [.int r_2]) (rest := []) ⟨hx, hb, hml, hown, hts⟩ (c_X6_isAttribute l dC dI cI hM hR hT hZ m_allRows m_allColumns m_rows m_columns m_cells m_cursor m_locked m_insert m_alarms m_rejects m_latest m_thrown m_streamLong m_at m_place m_orders m_escaped m_broken m_signBefore m_free m_waitsLong m_cutOff m_screen m_stream m_waits _ r_2 r_3 hq_3) (cwV 1 hts gX6_home_X6_isAttribute rfl rfl rfl (by decide +kernel) ⟨Nat.le_of_ble_eq_true rfl, Nat.le_of_ble_eq_true rfl⟩) hK hP hD hS hA 0 7 rfl rfl rfl hl.1 rfl (Nat.le_of_ble_eq_true rfl) dX6_home_18 ⟨Nat.zero_le _, Nat.zero_le _⟩ (fun _ H locs hP hD hS => ?_)
        have hP : va_P (dC, dI) vwCl (wM hM hR hT hZ cI m_allRows m_allColumns m_rows m_columns m_cells m_cursor m_locked m_insert m_alarms m_rejects m_latest m_thrown m_streamLong m_at m_place m_orders m_escaped m_broken m_signBefore m_free m_waitsLong m_cutOff m_screen m_stream m_waits) H := hP
        have hD : va_D A (wM hM hR hT hZ cI m_allRows m_allColumns m_rows m_columns m_cells m_cursor m_locked m_insert m_alarms m_rejects m_latest m_thrown m_streamLong m_at m_place m_orders m_escaped m_broken m_signBefore m_free m_waitsLong m_cutOff m_screen m_stream m_waits) := hD
        refine lv_if_eq (tgt := 32) hx hb dX6_home_21 (by decide) (fun c_4 => ?_) (fun c_4 => ?_)
        · have hf := (if_pos c_4).symm.trans hf
          refine lv_iinc (v := v2 + 1) (lv' := [(2, .int (v2 + 1)), (0, .ref hM), (1, .int v1)]) hx hb dX6_home_32 hl (k := 2) rfl rfl (by decide) rfl (fun ls hl => ?_)
          refine lv_goto (tgt := 2) hx hb dX6_home_35 (by decide) ?_
          exact ih v1 (v2 + 1) _ _ hf  hP hD hS ls (lv_sub hl [1, 2, 0] rfl)
        · have hf := (if_neg c_4).symm.trans hf
          refine lv_aload_n hx hb dX6_home_24 rfl (lv_at hl 0 rfl) ?_
          refine lv_iload_n hx hb dX6_home_25 rfl (lv_at hl 1 rfl) ?_
          refine lv_iload_n hx hb dX6_home_26 rfl (lv_at hl 2 rfl) ?_
          refine lv_isub hx hb dX6_home_27 ?_
          obtain ⟨r_5, hq_5, hf⟩ := ob_inv hf
          refine my_cVi (As := [.int (v1 - v2)]) (rest := []) ⟨hx, hb, hml, hown, hts⟩ (c_X6_round l dC dI cI hM hR hT hZ m_allRows m_allColumns m_rows m_columns m_cells m_cursor m_locked m_insert m_alarms m_rejects m_latest m_thrown m_streamLong m_at m_place m_orders m_escaped m_broken m_signBefore m_free m_waitsLong m_cutOff m_screen m_stream m_waits _ (v1 - v2) r_5 hq_5) (cwV 1 hts gX6_home_X6_round rfl rfl rfl (by decide +kernel) ⟨Nat.le_of_ble_eq_true rfl, Nat.le_of_ble_eq_true rfl⟩) hK hP hD hS hA 0 7 rfl rfl rfl hl.1 rfl (Nat.le_of_ble_eq_true rfl) dX6_home_28 ⟨Nat.zero_le _, Nat.zero_le _⟩ (fun _ H locs hP hD hS => ?_)
          have hP : va_P (dC, dI) vwCl (wM hM hR hT hZ cI m_allRows m_allColumns m_rows m_columns m_cells m_cursor m_locked m_insert m_alarms m_rejects m_latest m_thrown m_streamLong m_at m_place m_orders m_escaped m_broken m_signBefore m_free m_waitsLong m_cutOff m_screen m_stream m_waits) H := hP
          have hD : va_D A (wM hM hR hT hZ cI m_allRows m_allColumns m_rows m_columns m_cells m_cursor m_locked m_insert m_alarms m_rejects m_latest m_thrown m_streamLong m_at m_place m_orders m_escaped m_broken m_signBefore m_free m_waitsLong m_cutOff m_screen m_stream m_waits) := hD
          have hf := Option.some.inj hf
          subst hf
          exact my_reti () hx hb hr hlocks hK hP hD hS rfl dX6_home_31
  unfold f_X6_home at hf
  refine lv_iconst (v := 0) hx hb dX6_home_0 (by decide) ?_
  refine lv_istore_n (lv' := [(2, .int 0), (0, .ref hM), (1, .int a1)]) hx hb dX6_home_1 rfl hl (by decide) rfl (fun ls hl => ?_)
  exact L2 FU a1 0 _ _ hf  hP hD hS ls (lv_sub hl [1, 2, 0] rfl)

theorem uu_X6_attributeOf_X6 : ∀ w ∈ u_ws RX6 TX6 25, w ∈ wsX6_attributeOf := fun _ h => List.mem_cons_of_mem _ (List.mem_append_right _ h)
def f_X6_attributeOf (m_cells : Int32) (m_screen : Nat → Int32) (a1 : Int32) : Option (Int32) :=
    Option.bind (f_X6_home m_cells m_screen a1) (fun r_1 =>
    if r_1 = (-1) then
    some 0
    else
    if r_1 < 0 ∨ 5676 ≤ r_1.toNatClampNeg then none else
    some ((m_screen r_1.toNatClampNeg) - 256))
set_option maxHeartbeats 400000 in
set_option maxRecDepth 100000 in
theorem c_X6_attributeOf (l : Launch) (dC : Nat → ClassId) (dI : Nat → Nat → Nat) (cI : ClassId) (hM hR hT hZ : Nat) (m_allRows : Int32) (m_allColumns : Int32) (m_rows : Int32) (m_columns : Int32) (m_cells : Int32) (m_cursor : Int32) (m_locked : Bool) (m_insert : Bool) (m_alarms : Int32) (m_rejects : Int32) (m_latest : Int32) (m_thrown : Int32) (m_streamLong : Int32) (m_at : Int32) (m_place : Int32) (m_orders : Int32) (m_escaped : Bool) (m_broken : Bool) (m_signBefore : Bool) (m_free : Bool) (m_waitsLong : Int32) (m_cutOff : Bool) (m_screen : Nat → Int32) (m_stream : Nat → Int32) (m_waits : Nat → Int32) (sz : Nat) (a1 : Int32) (res : Int32) (hf : f_X6_attributeOf m_cells m_screen a1 = some res) : Met l yX6_attributeOf wsX6_attributeOf ({ frames := 2, cells := 0, slots := 0, locals := 43 }) (va_Pc [.ref hM, .int a1] (my_Pre (dC, dI) [(cI, .int)] (wM hM hR hT hZ cI m_allRows m_allColumns m_rows m_columns m_cells m_cursor m_locked m_insert m_alarms m_rejects m_latest m_thrown m_streamLong m_at m_place m_orders m_escaped m_broken m_signBefore m_free m_waitsLong m_cutOff m_screen m_stream m_waits) sz)) (my_Qi (S := Unit) (dC, dI) [(cI, .int)] res (fun _ => wM hM hR hT hZ cI m_allRows m_allColumns m_rows m_columns m_cells m_cursor m_locked m_insert m_alarms m_rejects m_latest m_thrown m_streamLong m_at m_place m_orders m_escaped m_broken m_signBefore m_free m_waitsLong m_cutOff m_screen m_stream m_waits) (va_A (wM hM hR hT hZ cI m_allRows m_allColumns m_rows m_columns m_cells m_cursor m_locked m_insert m_alarms m_rejects m_latest m_thrown m_streamLong m_at m_place m_orders m_escaped m_broken m_signBefore m_free m_waitsLong m_cutOff m_screen m_stream m_waits) sz)) 0 0 (va_A (wM hM hR hT hZ cI m_allRows m_allColumns m_rows m_columns m_cells m_cursor m_locked m_insert m_alarms m_rejects m_latest m_thrown m_streamLong m_at m_place m_orders m_escaped m_broken m_signBefore m_free m_waitsLong m_cutOff m_screen m_stream m_waits) sz) := by
  refine my_enter (cc := cX6_attributeOf) (maxL := 3) (ret := (some .int)) (Qc := my_Qi (S := Unit) (dC, dI) [(cI, .int)] res (fun _ => wM hM hR hT hZ cI m_allRows m_allColumns m_rows m_columns m_cells m_cursor m_locked m_insert m_alarms m_rejects m_latest m_thrown m_streamLong m_at m_place m_orders m_escaped m_broken m_signBefore m_free m_waitsLong m_cutOff m_screen m_stream m_waits)) (by decide) rfl (Nat.le_of_ble_eq_true rfl) ?_
  intro p e s m below meth c A ls hx hb hr hml hts hown hlocks hnm hP hK hD hA hS hl
  have hown : s.vm.findClass RX6 = some m.cls := hown
  have hl : lv_has ls 3 [(0, .ref hM), (1, .int a1)] := hl
  unfold f_X6_attributeOf at hf
  refine lv_aload_n hx hb dX6_attributeOf_0 rfl (lv_at hl 0 rfl) ?_
  refine lv_iload_n hx hb dX6_attributeOf_1 rfl (lv_at hl 1 rfl) ?_
  obtain ⟨r_1, hq_1, hf⟩ := ob_inv hf
  refine my_cVi (As := [.int a1]) (rest := []) ⟨hx, hb, hml, hown, hts⟩ (c_X6_home l dC dI cI hM hR hT hZ m_allRows m_allColumns m_rows m_columns m_cells m_cursor m_locked m_insert m_alarms m_rejects m_latest m_thrown m_streamLong m_at m_place m_orders m_escaped m_broken m_signBefore m_free m_waitsLong m_cutOff m_screen m_stream m_waits _ a1 r_1 hq_1) (cwV 1 hts gX6_attributeOf_X6_home rfl rfl rfl (by decide +kernel) ⟨Nat.le_of_ble_eq_true rfl, Nat.le_of_ble_eq_true rfl⟩) hK hP hD hS hA 0 7 rfl rfl rfl hl.1 rfl (Nat.le_of_ble_eq_true rfl) dX6_attributeOf_2 ⟨Nat.zero_le _, Nat.zero_le _⟩ (fun _ H locs hP hD hS => ?_)
  have hP : va_P (dC, dI) vwCl (wM hM hR hT hZ cI m_allRows m_allColumns m_rows m_columns m_cells m_cursor m_locked m_insert m_alarms m_rejects m_latest m_thrown m_streamLong m_at m_place m_orders m_escaped m_broken m_signBefore m_free m_waitsLong m_cutOff m_screen m_stream m_waits) H := hP
  have hD : va_D A (wM hM hR hT hZ cI m_allRows m_allColumns m_rows m_columns m_cells m_cursor m_locked m_insert m_alarms m_rejects m_latest m_thrown m_streamLong m_at m_place m_orders m_escaped m_broken m_signBefore m_free m_waitsLong m_cutOff m_screen m_stream m_waits) := hD
  refine lv_istore_n (lv' := [(2, .int r_1), (0, .ref hM), (1, .int a1)]) hx hb dX6_attributeOf_5 rfl hl (by decide) rfl (fun ls hl => ?_)
  refine lv_iload_n hx hb dX6_attributeOf_6 rfl (lv_at hl 0 rfl) ?_
  refine lv_iconst (v := (-1)) hx hb dX6_attributeOf_7 (by decide) ?_
  refine lv_icmp_ne (tgt := 15) hx hb dX6_attributeOf_8 (by decide) (fun c_2 => ?_) (fun c_2 => ?_)
  · have hf := (if_neg c_2).symm.trans hf
    refine lv_aload_n hx hb dX6_attributeOf_15 rfl (lv_at hl 1 rfl) ?_
    refine va_get (D := (dC, dI)) (ci := 7) (v := .ref hR) (C := RX6) (T := TX6) (N := 25) hx hb hts uu_X6_attributeOf_X6 hown hK hP 0 rfl rfl 6 (by decide) (hts (.fieldLink RX6 7 "BlockScreenModel" "screen" "[I") (List.mem_of_getElem? (i := 1) rfl)) (fun _ h9 => h9) rfl dX6_attributeOf_16 ?_
    refine lv_iload_n hx hb dX6_attributeOf_19 rfl (lv_at hl 0 rfl) ?_
    rcases Classical.em (r_1 < 0 ∨ 5676 ≤ r_1.toNatClampNeg) with c_3 | c_3
    · exact nn_abs ((if_pos c_3).symm.trans hf)
    have hf := (if_neg c_3).symm.trans hf
    refine va_iald hx hb hK hP 1 0 rfl rfl c_3 dX6_attributeOf_20 ?_
    refine lv_sipush (v := 256) hx hb dX6_attributeOf_21 (by decide) ?_
    refine lv_isub hx hb dX6_attributeOf_24 ?_
    have hf := Option.some.inj hf
    subst hf
    exact my_reti () hx hb hr hlocks hK hP hD hS rfl dX6_attributeOf_25
  · have hf := (if_pos c_2).symm.trans hf
    refine lv_iconst (v := 0) hx hb dX6_attributeOf_11 (by decide) ?_
    refine lv_goto (tgt := 25) hx hb dX6_attributeOf_12 (by decide) ?_
    have hf := Option.some.inj hf
    subst hf
    exact my_reti () hx hb hr hlocks hK hP hD hS rfl dX6_attributeOf_25

def f_X6_isProtected (m_cells : Int32) (m_screen : Nat → Int32) (a1 : Int32) : Option (Bool) :=
    Option.bind (f_X6_attributeOf m_cells m_screen a1) (fun r_1 =>
    if (r_1 &&& 32) = 0 then
    some false
    else
    some true)
set_option maxHeartbeats 400000 in
set_option maxRecDepth 100000 in
theorem c_X6_isProtected (l : Launch) (dC : Nat → ClassId) (dI : Nat → Nat → Nat) (cI : ClassId) (hM hR hT hZ : Nat) (m_allRows : Int32) (m_allColumns : Int32) (m_rows : Int32) (m_columns : Int32) (m_cells : Int32) (m_cursor : Int32) (m_locked : Bool) (m_insert : Bool) (m_alarms : Int32) (m_rejects : Int32) (m_latest : Int32) (m_thrown : Int32) (m_streamLong : Int32) (m_at : Int32) (m_place : Int32) (m_orders : Int32) (m_escaped : Bool) (m_broken : Bool) (m_signBefore : Bool) (m_free : Bool) (m_waitsLong : Int32) (m_cutOff : Bool) (m_screen : Nat → Int32) (m_stream : Nat → Int32) (m_waits : Nat → Int32) (sz : Nat) (a1 : Int32) (res : Bool) (hf : f_X6_isProtected m_cells m_screen a1 = some res) : Met l yX6_isProtected wsX6_isProtected ({ frames := 3, cells := 0, slots := 0, locals := 65 }) (va_Pc [.ref hM, .int a1] (my_Pre (dC, dI) [(cI, .int)] (wM hM hR hT hZ cI m_allRows m_allColumns m_rows m_columns m_cells m_cursor m_locked m_insert m_alarms m_rejects m_latest m_thrown m_streamLong m_at m_place m_orders m_escaped m_broken m_signBefore m_free m_waitsLong m_cutOff m_screen m_stream m_waits) sz)) (my_Qi (S := Unit) (dC, dI) [(cI, .int)] (b2i res) (fun _ => wM hM hR hT hZ cI m_allRows m_allColumns m_rows m_columns m_cells m_cursor m_locked m_insert m_alarms m_rejects m_latest m_thrown m_streamLong m_at m_place m_orders m_escaped m_broken m_signBefore m_free m_waitsLong m_cutOff m_screen m_stream m_waits) (va_A (wM hM hR hT hZ cI m_allRows m_allColumns m_rows m_columns m_cells m_cursor m_locked m_insert m_alarms m_rejects m_latest m_thrown m_streamLong m_at m_place m_orders m_escaped m_broken m_signBefore m_free m_waitsLong m_cutOff m_screen m_stream m_waits) sz)) 0 0 (va_A (wM hM hR hT hZ cI m_allRows m_allColumns m_rows m_columns m_cells m_cursor m_locked m_insert m_alarms m_rejects m_latest m_thrown m_streamLong m_at m_place m_orders m_escaped m_broken m_signBefore m_free m_waitsLong m_cutOff m_screen m_stream m_waits) sz) := by
  refine my_enter (cc := cX6_isProtected) (maxL := 2) (ret := (some .boolean)) (Qc := my_Qi (S := Unit) (dC, dI) [(cI, .int)] (b2i res) (fun _ => wM hM hR hT hZ cI m_allRows m_allColumns m_rows m_columns m_cells m_cursor m_locked m_insert m_alarms m_rejects m_latest m_thrown m_streamLong m_at m_place m_orders m_escaped m_broken m_signBefore m_free m_waitsLong m_cutOff m_screen m_stream m_waits)) (by decide) rfl (Nat.le_of_ble_eq_true rfl) ?_
  intro p e s m below meth c A ls hx hb hr hml hts hown hlocks hnm hP hK hD hA hS hl
  have hown : s.vm.findClass RX6 = some m.cls := hown
  have hl : lv_has ls 2 [(0, .ref hM), (1, .int a1)] := hl
  unfold f_X6_isProtected at hf
  refine lv_aload_n hx hb dX6_isProtected_0 rfl (lv_at hl 0 rfl) ?_
  refine lv_iload_n hx hb dX6_isProtected_1 rfl (lv_at hl 1 rfl) ?_
  obtain ⟨r_1, hq_1, hf⟩ := ob_inv hf
  refine my_cVi (As := [.int a1]) (rest := []) ⟨hx, hb, hml, hown, hts⟩ (c_X6_attributeOf l dC dI cI hM hR hT hZ m_allRows m_allColumns m_rows m_columns m_cells m_cursor m_locked m_insert m_alarms m_rejects m_latest m_thrown m_streamLong m_at m_place m_orders m_escaped m_broken m_signBefore m_free m_waitsLong m_cutOff m_screen m_stream m_waits _ a1 r_1 hq_1) (cwV 1 hts gX6_isProtected_X6_attributeOf rfl rfl rfl (by decide +kernel) ⟨Nat.le_of_ble_eq_true rfl, Nat.le_of_ble_eq_true rfl⟩) hK hP hD hS hA 0 7 rfl rfl rfl hl.1 rfl (Nat.le_of_ble_eq_true rfl) dX6_isProtected_2 ⟨Nat.zero_le _, Nat.zero_le _⟩ (fun _ H locs hP hD hS => ?_)
  have hP : va_P (dC, dI) vwCl (wM hM hR hT hZ cI m_allRows m_allColumns m_rows m_columns m_cells m_cursor m_locked m_insert m_alarms m_rejects m_latest m_thrown m_streamLong m_at m_place m_orders m_escaped m_broken m_signBefore m_free m_waitsLong m_cutOff m_screen m_stream m_waits) H := hP
  have hD : va_D A (wM hM hR hT hZ cI m_allRows m_allColumns m_rows m_columns m_cells m_cursor m_locked m_insert m_alarms m_rejects m_latest m_thrown m_streamLong m_at m_place m_orders m_escaped m_broken m_signBefore m_free m_waitsLong m_cutOff m_screen m_stream m_waits) := hD
  refine lv_bipush (v := 32) hx hb dX6_isProtected_5 (by decide) ?_
  refine lv_iand hx hb dX6_isProtected_7 ?_
  refine lv_if_eq (tgt := 15) hx hb dX6_isProtected_8 (by decide) (fun c_2 => ?_) (fun c_2 => ?_)
  · have hf := (if_pos c_2).symm.trans hf
    refine lv_iconst (v := 0) hx hb dX6_isProtected_15 (by decide) ?_
    have hf := Option.some.inj hf
    subst hf
    exact my_retz () hx hb hr hlocks rfl hK hP hD hS rfl dX6_isProtected_16
  · have hf := (if_neg c_2).symm.trans hf
    refine lv_iconst (v := 1) hx hb dX6_isProtected_11 (by decide) ?_
    refine lv_goto (tgt := 16) hx hb dX6_isProtected_12 (by decide) ?_
    have hf := Option.some.inj hf
    subst hf
    exact my_retz () hx hb hr hlocks rfl hK hP hD hS rfl dX6_isProtected_16

def f_X6_mayBeTyped (m_cells : Int32) (m_screen : Nat → Int32) (a1 : Int32) : Option (Bool) :=
    Option.bind (f_X6_isAttribute m_screen a1) (fun r_1 =>
    if (b2i r_1) = 0 then
    Option.bind (f_X6_isProtected m_cells m_screen a1) (fun r_3 =>
    if (b2i r_3) = 0 then
    some true
    else
    some false)
    else
    some false)
set_option maxHeartbeats 400000 in
set_option maxRecDepth 100000 in
theorem c_X6_mayBeTyped (l : Launch) (dC : Nat → ClassId) (dI : Nat → Nat → Nat) (cI : ClassId) (hM hR hT hZ : Nat) (m_allRows : Int32) (m_allColumns : Int32) (m_rows : Int32) (m_columns : Int32) (m_cells : Int32) (m_cursor : Int32) (m_locked : Bool) (m_insert : Bool) (m_alarms : Int32) (m_rejects : Int32) (m_latest : Int32) (m_thrown : Int32) (m_streamLong : Int32) (m_at : Int32) (m_place : Int32) (m_orders : Int32) (m_escaped : Bool) (m_broken : Bool) (m_signBefore : Bool) (m_free : Bool) (m_waitsLong : Int32) (m_cutOff : Bool) (m_screen : Nat → Int32) (m_stream : Nat → Int32) (m_waits : Nat → Int32) (sz : Nat) (a1 : Int32) (res : Bool) (hf : f_X6_mayBeTyped m_cells m_screen a1 = some res) : Met l yX6_mayBeTyped wsX6_mayBeTyped ({ frames := 4, cells := 0, slots := 0, locals := 86 }) (va_Pc [.ref hM, .int a1] (my_Pre (dC, dI) [(cI, .int)] (wM hM hR hT hZ cI m_allRows m_allColumns m_rows m_columns m_cells m_cursor m_locked m_insert m_alarms m_rejects m_latest m_thrown m_streamLong m_at m_place m_orders m_escaped m_broken m_signBefore m_free m_waitsLong m_cutOff m_screen m_stream m_waits) sz)) (my_Qi (S := Unit) (dC, dI) [(cI, .int)] (b2i res) (fun _ => wM hM hR hT hZ cI m_allRows m_allColumns m_rows m_columns m_cells m_cursor m_locked m_insert m_alarms m_rejects m_latest m_thrown m_streamLong m_at m_place m_orders m_escaped m_broken m_signBefore m_free m_waitsLong m_cutOff m_screen m_stream m_waits) (va_A (wM hM hR hT hZ cI m_allRows m_allColumns m_rows m_columns m_cells m_cursor m_locked m_insert m_alarms m_rejects m_latest m_thrown m_streamLong m_at m_place m_orders m_escaped m_broken m_signBefore m_free m_waitsLong m_cutOff m_screen m_stream m_waits) sz)) 0 0 (va_A (wM hM hR hT hZ cI m_allRows m_allColumns m_rows m_columns m_cells m_cursor m_locked m_insert m_alarms m_rejects m_latest m_thrown m_streamLong m_at m_place m_orders m_escaped m_broken m_signBefore m_free m_waitsLong m_cutOff m_screen m_stream m_waits) sz) := by
  refine my_enter (cc := cX6_mayBeTyped) (maxL := 2) (ret := (some .boolean)) (Qc := my_Qi (S := Unit) (dC, dI) [(cI, .int)] (b2i res) (fun _ => wM hM hR hT hZ cI m_allRows m_allColumns m_rows m_columns m_cells m_cursor m_locked m_insert m_alarms m_rejects m_latest m_thrown m_streamLong m_at m_place m_orders m_escaped m_broken m_signBefore m_free m_waitsLong m_cutOff m_screen m_stream m_waits)) (by decide) rfl (Nat.le_of_ble_eq_true rfl) ?_
  intro p e s m below meth c A ls hx hb hr hml hts hown hlocks hnm hP hK hD hA hS hl
  have hown : s.vm.findClass RX6 = some m.cls := hown
  have hl : lv_has ls 2 [(0, .ref hM), (1, .int a1)] := hl
  unfold f_X6_mayBeTyped at hf
  refine lv_aload_n hx hb dX6_mayBeTyped_0 rfl (lv_at hl 0 rfl) ?_
  refine lv_iload_n hx hb dX6_mayBeTyped_1 rfl (lv_at hl 1 rfl) ?_
  obtain ⟨r_1, hq_1, hf⟩ := ob_inv hf
  refine my_cVi (As := [.int a1]) (rest := []) ⟨hx, hb, hml, hown, hts⟩ (c_X6_isAttribute l dC dI cI hM hR hT hZ m_allRows m_allColumns m_rows m_columns m_cells m_cursor m_locked m_insert m_alarms m_rejects m_latest m_thrown m_streamLong m_at m_place m_orders m_escaped m_broken m_signBefore m_free m_waitsLong m_cutOff m_screen m_stream m_waits _ a1 r_1 hq_1) (cwV 1 hts gX6_mayBeTyped_X6_isAttribute rfl rfl rfl (by decide +kernel) ⟨Nat.le_of_ble_eq_true rfl, Nat.le_of_ble_eq_true rfl⟩) hK hP hD hS hA 0 7 rfl rfl rfl hl.1 rfl (Nat.le_of_ble_eq_true rfl) dX6_mayBeTyped_2 ⟨Nat.zero_le _, Nat.zero_le _⟩ (fun _ H locs hP hD hS => ?_)
  have hP : va_P (dC, dI) vwCl (wM hM hR hT hZ cI m_allRows m_allColumns m_rows m_columns m_cells m_cursor m_locked m_insert m_alarms m_rejects m_latest m_thrown m_streamLong m_at m_place m_orders m_escaped m_broken m_signBefore m_free m_waitsLong m_cutOff m_screen m_stream m_waits) H := hP
  have hD : va_D A (wM hM hR hT hZ cI m_allRows m_allColumns m_rows m_columns m_cells m_cursor m_locked m_insert m_alarms m_rejects m_latest m_thrown m_streamLong m_at m_place m_orders m_escaped m_broken m_signBefore m_free m_waitsLong m_cutOff m_screen m_stream m_waits) := hD
  refine lv_if_ne (tgt := 20) hx hb dX6_mayBeTyped_5 (by decide) (fun c_2 => ?_) (fun c_2 => ?_)
  · have hf := (if_neg c_2).symm.trans hf
    refine lv_iconst (v := 0) hx hb dX6_mayBeTyped_20 (by decide) ?_
    have hf := Option.some.inj hf
    subst hf
    exact my_retz () hx hb hr hlocks rfl hK hP hD hS rfl dX6_mayBeTyped_21
  · have hf := (if_pos c_2).symm.trans hf
    refine lv_aload_n hx hb dX6_mayBeTyped_8 rfl (lv_at hl 0 rfl) ?_
    refine lv_iload_n hx hb dX6_mayBeTyped_9 rfl (lv_at hl 1 rfl) ?_
    obtain ⟨r_3, hq_3, hf⟩ := ob_inv hf
    refine my_cVi (As := [.int a1]) (rest := []) ⟨hx, hb, hml, hown, hts⟩ (c_X6_isProtected l dC dI cI hM hR hT hZ m_allRows m_allColumns m_rows m_columns m_cells m_cursor m_locked m_insert m_alarms m_rejects m_latest m_thrown m_streamLong m_at m_place m_orders m_escaped m_broken m_signBefore m_free m_waitsLong m_cutOff m_screen m_stream m_waits _ a1 r_3 hq_3) (cwV 1 hts gX6_mayBeTyped_X6_isProtected rfl rfl rfl (by decide +kernel) ⟨Nat.le_of_ble_eq_true rfl, Nat.le_of_ble_eq_true rfl⟩) hK hP hD hS hA 0 7 rfl rfl rfl hl.1 rfl (Nat.le_of_ble_eq_true rfl) dX6_mayBeTyped_10 ⟨Nat.zero_le _, Nat.zero_le _⟩ (fun _ H locs hP hD hS => ?_)
    have hP : va_P (dC, dI) vwCl (wM hM hR hT hZ cI m_allRows m_allColumns m_rows m_columns m_cells m_cursor m_locked m_insert m_alarms m_rejects m_latest m_thrown m_streamLong m_at m_place m_orders m_escaped m_broken m_signBefore m_free m_waitsLong m_cutOff m_screen m_stream m_waits) H := hP
    have hD : va_D A (wM hM hR hT hZ cI m_allRows m_allColumns m_rows m_columns m_cells m_cursor m_locked m_insert m_alarms m_rejects m_latest m_thrown m_streamLong m_at m_place m_orders m_escaped m_broken m_signBefore m_free m_waitsLong m_cutOff m_screen m_stream m_waits) := hD
    refine lv_if_ne (tgt := 20) hx hb dX6_mayBeTyped_13 (by decide) (fun c_4 => ?_) (fun c_4 => ?_)
    · have hf := (if_neg c_4).symm.trans hf
      refine lv_iconst (v := 0) hx hb dX6_mayBeTyped_20 (by decide) ?_
      have hf := Option.some.inj hf
      subst hf
      exact my_retz () hx hb hr hlocks rfl hK hP hD hS rfl dX6_mayBeTyped_21
    · have hf := (if_pos c_4).symm.trans hf
      refine lv_iconst (v := 1) hx hb dX6_mayBeTyped_16 (by decide) ?_
      refine lv_goto (tgt := 21) hx hb dX6_mayBeTyped_17 (by decide) ?_
      have hf := Option.some.inj hf
      subst hf
      exact my_retz () hx hb hr hlocks rfl hK hP hD hS rfl dX6_mayBeTyped_21

theorem uu_X6_modify_X6 : ∀ w ∈ u_ws RX6 TX6 25, w ∈ wsX6_modify := fun _ h => List.mem_cons_of_mem _ (List.mem_append_right _ h)
def f_X6_modify (m_cells : Int32) (m_screen : Nat → Int32) (a1 : Int32) : Option ((Nat → Int32)) :=
    Option.bind (f_X6_home m_cells m_screen a1) (fun r_1 =>
    if r_1 = (-1) then
    some m_screen
    else
    if r_1 < 0 ∨ 5676 ≤ r_1.toNatClampNeg then none else
    some (upd m_screen r_1.toNatClampNeg ((m_screen r_1.toNatClampNeg) ||| 1)))
set_option maxHeartbeats 400000 in
set_option maxRecDepth 100000 in
theorem c_X6_modify (l : Launch) (dC : Nat → ClassId) (dI : Nat → Nat → Nat) (cI : ClassId) (hM hR hT hZ : Nat) (m_allRows : Int32) (m_allColumns : Int32) (m_rows : Int32) (m_columns : Int32) (m_cells : Int32) (m_cursor : Int32) (m_locked : Bool) (m_insert : Bool) (m_alarms : Int32) (m_rejects : Int32) (m_latest : Int32) (m_thrown : Int32) (m_streamLong : Int32) (m_at : Int32) (m_place : Int32) (m_orders : Int32) (m_escaped : Bool) (m_broken : Bool) (m_signBefore : Bool) (m_free : Bool) (m_waitsLong : Int32) (m_cutOff : Bool) (m_screen : Nat → Int32) (m_stream : Nat → Int32) (m_waits : Nat → Int32) (sz : Nat) (a1 : Int32) (res : (Nat → Int32)) (hf : f_X6_modify m_cells m_screen a1 = some res) : Met l yX6_modify wsX6_modify ({ frames := 2, cells := 0, slots := 0, locals := 43 }) (va_Pc [.ref hM, .int a1] (my_Pre (dC, dI) [(cI, .int)] (wM hM hR hT hZ cI m_allRows m_allColumns m_rows m_columns m_cells m_cursor m_locked m_insert m_alarms m_rejects m_latest m_thrown m_streamLong m_at m_place m_orders m_escaped m_broken m_signBefore m_free m_waitsLong m_cutOff m_screen m_stream m_waits) sz)) (my_Qv (S := Unit) (dC, dI) [(cI, .int)] (fun _ => wM hM hR hT hZ cI m_allRows m_allColumns m_rows m_columns m_cells m_cursor m_locked m_insert m_alarms m_rejects m_latest m_thrown m_streamLong m_at m_place m_orders m_escaped m_broken m_signBefore m_free m_waitsLong m_cutOff res m_stream m_waits) (va_A (wM hM hR hT hZ cI m_allRows m_allColumns m_rows m_columns m_cells m_cursor m_locked m_insert m_alarms m_rejects m_latest m_thrown m_streamLong m_at m_place m_orders m_escaped m_broken m_signBefore m_free m_waitsLong m_cutOff m_screen m_stream m_waits) sz)) 0 0 (va_A (wM hM hR hT hZ cI m_allRows m_allColumns m_rows m_columns m_cells m_cursor m_locked m_insert m_alarms m_rejects m_latest m_thrown m_streamLong m_at m_place m_orders m_escaped m_broken m_signBefore m_free m_waitsLong m_cutOff m_screen m_stream m_waits) sz) := by
  refine my_enter (cc := cX6_modify) (maxL := 3) (ret := none) (Qc := my_Qv (S := Unit) (dC, dI) [(cI, .int)] (fun _ => wM hM hR hT hZ cI m_allRows m_allColumns m_rows m_columns m_cells m_cursor m_locked m_insert m_alarms m_rejects m_latest m_thrown m_streamLong m_at m_place m_orders m_escaped m_broken m_signBefore m_free m_waitsLong m_cutOff res m_stream m_waits)) (by decide) rfl (Nat.le_of_ble_eq_true rfl) ?_
  intro p e s m below meth c A ls hx hb hr hml hts hown hlocks hnm hP hK hD hA hS hl
  have hown : s.vm.findClass RX6 = some m.cls := hown
  have hl : lv_has ls 3 [(0, .ref hM), (1, .int a1)] := hl
  unfold f_X6_modify at hf
  refine lv_aload_n hx hb dX6_modify_0 rfl (lv_at hl 0 rfl) ?_
  refine lv_iload_n hx hb dX6_modify_1 rfl (lv_at hl 1 rfl) ?_
  obtain ⟨r_1, hq_1, hf⟩ := ob_inv hf
  refine my_cVi (As := [.int a1]) (rest := []) ⟨hx, hb, hml, hown, hts⟩ (c_X6_home l dC dI cI hM hR hT hZ m_allRows m_allColumns m_rows m_columns m_cells m_cursor m_locked m_insert m_alarms m_rejects m_latest m_thrown m_streamLong m_at m_place m_orders m_escaped m_broken m_signBefore m_free m_waitsLong m_cutOff m_screen m_stream m_waits _ a1 r_1 hq_1) (cwV 1 hts gX6_modify_X6_home rfl rfl rfl (by decide +kernel) ⟨Nat.le_of_ble_eq_true rfl, Nat.le_of_ble_eq_true rfl⟩) hK hP hD hS hA 0 7 rfl rfl rfl hl.1 rfl (Nat.le_of_ble_eq_true rfl) dX6_modify_2 ⟨Nat.zero_le _, Nat.zero_le _⟩ (fun _ H locs hP hD hS => ?_)
  have hP : va_P (dC, dI) vwCl (wM hM hR hT hZ cI m_allRows m_allColumns m_rows m_columns m_cells m_cursor m_locked m_insert m_alarms m_rejects m_latest m_thrown m_streamLong m_at m_place m_orders m_escaped m_broken m_signBefore m_free m_waitsLong m_cutOff m_screen m_stream m_waits) H := hP
  have hD : va_D A (wM hM hR hT hZ cI m_allRows m_allColumns m_rows m_columns m_cells m_cursor m_locked m_insert m_alarms m_rejects m_latest m_thrown m_streamLong m_at m_place m_orders m_escaped m_broken m_signBefore m_free m_waitsLong m_cutOff m_screen m_stream m_waits) := hD
  refine lv_istore_n (lv' := [(2, .int r_1), (0, .ref hM), (1, .int a1)]) hx hb dX6_modify_5 rfl hl (by decide) rfl (fun ls hl => ?_)
  refine lv_iload_n hx hb dX6_modify_6 rfl (lv_at hl 0 rfl) ?_
  refine lv_iconst (v := (-1)) hx hb dX6_modify_7 (by decide) ?_
  refine lv_icmp_eq (tgt := 21) hx hb dX6_modify_8 (by decide) (fun c_2 => ?_) (fun c_2 => ?_)
  · have hf := (if_pos c_2).symm.trans hf
    have hf := Option.some.inj hf
    subst hf
    exact my_retv () hx hb hr hlocks hK hP hD hS dX6_modify_21
  · have hf := (if_neg c_2).symm.trans hf
    refine lv_aload_n hx hb dX6_modify_11 rfl (lv_at hl 1 rfl) ?_
    refine va_get (D := (dC, dI)) (ci := 7) (v := .ref hR) (C := RX6) (T := TX6) (N := 25) hx hb hts uu_X6_modify_X6 hown hK hP 0 rfl rfl 6 (by decide) (hts (.fieldLink RX6 7 "BlockScreenModel" "screen" "[I") (List.mem_of_getElem? (i := 1) rfl)) (fun _ h9 => h9) rfl dX6_modify_12 ?_
    refine lv_iload_n hx hb dX6_modify_15 rfl (lv_at hl 0 rfl) ?_
    refine lv_dup2_11 hx hb dX6_modify_16 rfl rfl ?_
    rcases Classical.em (r_1 < 0 ∨ 5676 ≤ r_1.toNatClampNeg) with c_3 | c_3
    · exact nn_abs ((if_pos c_3).symm.trans hf)
    have hf := (if_neg c_3).symm.trans hf
    refine va_iald hx hb hK hP 1 0 rfl rfl c_3 dX6_modify_17 ?_
    refine lv_iconst (v := 1) hx hb dX6_modify_18 (by decide) ?_
    refine lv_ior hx hb dX6_modify_19 ?_
    refine va_iast hx hb hK hP hD hS 1 0 rfl rfl c_3 dX6_modify_20 (fun H locs hP hD hS => ?_)
    have hP : va_P (dC, dI) vwCl (wM hM hR hT hZ cI m_allRows m_allColumns m_rows m_columns m_cells m_cursor m_locked m_insert m_alarms m_rejects m_latest m_thrown m_streamLong m_at m_place m_orders m_escaped m_broken m_signBefore m_free m_waitsLong m_cutOff (upd m_screen r_1.toNatClampNeg ((m_screen r_1.toNatClampNeg) ||| 1)) m_stream m_waits) H := hP
    have hD : va_D A (wM hM hR hT hZ cI m_allRows m_allColumns m_rows m_columns m_cells m_cursor m_locked m_insert m_alarms m_rejects m_latest m_thrown m_streamLong m_at m_place m_orders m_escaped m_broken m_signBefore m_free m_waitsLong m_cutOff (upd m_screen r_1.toNatClampNeg ((m_screen r_1.toNatClampNeg) ||| 1)) m_stream m_waits) := hD
    have hf := Option.some.inj hf
    subst hf
    exact my_retv () hx hb hr hlocks hK hP hD hS dX6_modify_21

theorem uu_X6_fields_X6 : ∀ w ∈ u_ws RX6 TX6 25, w ∈ wsX6_fields := fun _ h => List.mem_cons_of_mem _ (List.mem_append_right _ h)
def f_X6_fields_L4 (m_cells : Int32) (m_screen : Nat → Int32) : Nat → Int32 → Int32 → Option (Int32)
  | 0, _, _ => none
  | fu + 1, v1, v2 =>
    if m_cells ≤ v2 then
    some v1
    else
    Option.bind (f_X6_isAttribute m_screen v2) (fun r_2 =>
    if (b2i r_2) = 0 then
    f_X6_fields_L4 m_cells m_screen fu v1 (v2 + 1)
    else
    f_X6_fields_L4 m_cells m_screen fu (v1 + 1) (v2 + 1))
def f_X6_fields (m_cells : Int32) (m_screen : Nat → Int32) : Option (Int32) :=
    f_X6_fields_L4 m_cells m_screen FU 0 0
set_option maxHeartbeats 400000 in
set_option maxRecDepth 100000 in
theorem c_X6_fields (l : Launch) (dC : Nat → ClassId) (dI : Nat → Nat → Nat) (cI : ClassId) (hM hR hT hZ : Nat) (m_allRows : Int32) (m_allColumns : Int32) (m_rows : Int32) (m_columns : Int32) (m_cells : Int32) (m_cursor : Int32) (m_locked : Bool) (m_insert : Bool) (m_alarms : Int32) (m_rejects : Int32) (m_latest : Int32) (m_thrown : Int32) (m_streamLong : Int32) (m_at : Int32) (m_place : Int32) (m_orders : Int32) (m_escaped : Bool) (m_broken : Bool) (m_signBefore : Bool) (m_free : Bool) (m_waitsLong : Int32) (m_cutOff : Bool) (m_screen : Nat → Int32) (m_stream : Nat → Int32) (m_waits : Nat → Int32) (sz : Nat)  (res : Int32) (hf : f_X6_fields m_cells m_screen = some res) : Met l yX6_fields wsX6_fields ({ frames := 1, cells := 0, slots := 0, locals := 21 }) (va_Pc [.ref hM] (my_Pre (dC, dI) [(cI, .int)] (wM hM hR hT hZ cI m_allRows m_allColumns m_rows m_columns m_cells m_cursor m_locked m_insert m_alarms m_rejects m_latest m_thrown m_streamLong m_at m_place m_orders m_escaped m_broken m_signBefore m_free m_waitsLong m_cutOff m_screen m_stream m_waits) sz)) (my_Qi (S := Unit) (dC, dI) [(cI, .int)] res (fun _ => wM hM hR hT hZ cI m_allRows m_allColumns m_rows m_columns m_cells m_cursor m_locked m_insert m_alarms m_rejects m_latest m_thrown m_streamLong m_at m_place m_orders m_escaped m_broken m_signBefore m_free m_waitsLong m_cutOff m_screen m_stream m_waits) (va_A (wM hM hR hT hZ cI m_allRows m_allColumns m_rows m_columns m_cells m_cursor m_locked m_insert m_alarms m_rejects m_latest m_thrown m_streamLong m_at m_place m_orders m_escaped m_broken m_signBefore m_free m_waitsLong m_cutOff m_screen m_stream m_waits) sz)) 0 0 (va_A (wM hM hR hT hZ cI m_allRows m_allColumns m_rows m_columns m_cells m_cursor m_locked m_insert m_alarms m_rejects m_latest m_thrown m_streamLong m_at m_place m_orders m_escaped m_broken m_signBefore m_free m_waitsLong m_cutOff m_screen m_stream m_waits) sz) := by
  refine my_enter (cc := cX6_fields) (maxL := 3) (ret := (some .int)) (Qc := my_Qi (S := Unit) (dC, dI) [(cI, .int)] res (fun _ => wM hM hR hT hZ cI m_allRows m_allColumns m_rows m_columns m_cells m_cursor m_locked m_insert m_alarms m_rejects m_latest m_thrown m_streamLong m_at m_place m_orders m_escaped m_broken m_signBefore m_free m_waitsLong m_cutOff m_screen m_stream m_waits)) (by decide) rfl (Nat.le_of_ble_eq_true rfl) ?_
  intro p e s m below meth c A ls hx hb hr hml hts hown hlocks hnm hP hK hD hA hS hl
  have hown : s.vm.findClass RX6 = some m.cls := hown
  have hl : lv_has ls 3 [(0, .ref hM)] := hl
  have L4 : ∀ (fu : Nat) (v1 : Int32) (v2 : Int32)   (H : Heap) (locs : List Loc), f_X6_fields_L4 m_cells m_screen fu v1 v2 = some res → va_P (dC, dI) vwCl (wM hM hR hT hZ cI m_allRows m_allColumns m_rows m_columns m_cells m_cursor m_locked m_insert m_alarms m_rejects m_latest m_thrown m_streamLong m_at m_place m_orders m_escaped m_broken m_signBefore m_free m_waitsLong m_cutOff m_screen m_stream m_waits) H → va_D A (wM hM hR hT hZ cI m_allRows m_allColumns m_rows m_columns m_cells m_cursor m_locked m_insert m_alarms m_rejects m_latest m_thrown m_streamLong m_at m_place m_orders m_escaped m_broken m_signBefore m_free m_waitsLong m_cutOff m_screen m_stream m_waits) → va_S A s.heap H locs → ∀ (ls : Array Slot), lv_has ls 3 [(0, .ref hM), (1, .int v1), (2, .int v2)] → W p l e (headSpec wsX6_fields ({ frames := 1, cells := 0, slots := 0, locals := 21 })).room s m ([.ref hM] : List Value).toArray below meth c H locs 0 0 (MQ below (my_Qi (S := Unit) (dC, dI) [(cI, .int)] res (fun _ => wM hM hR hT hZ cI m_allRows m_allColumns m_rows m_columns m_cells m_cursor m_locked m_insert m_alarms m_rejects m_latest m_thrown m_streamLong m_at m_place m_orders m_escaped m_broken m_signBefore m_free m_waitsLong m_cutOff m_screen m_stream m_waits) A) ([.ref hM] : List Value).toArray s 0 0 A) (F0 m 4 ls []) := by
    intro fu
    induction fu with
    | zero =>
      intro v1 v2 H locs hf
      rw [f_X6_fields_L4.eq_1] at hf
      cases hf
    | succ fu ih =>
      intro v1 v2 H locs hf  hP hD hS ls hl
      rw [f_X6_fields_L4.eq_2] at hf
      refine lv_iload_n hx hb dX6_fields_4 rfl (lv_at hl 2 rfl) ?_
      refine lv_aload_n hx hb dX6_fields_5 rfl (lv_at hl 0 rfl) ?_
      refine va_get (D := (dC, dI)) (ci := 7) (v := .int m_cells) (C := RX6) (T := TX6) (N := 25) hx hb hts uu_X6_fields_X6 hown hK hP 0 rfl rfl 4 (by decide) (hts (.fieldLink RX6 46 "BlockScreenModel" "cells" "I") (List.mem_of_getElem? (i := 1) rfl)) (fun _ h9 => h9) rfl dX6_fields_6 ?_
      refine lv_icmp_ge (tgt := 29) hx hb dX6_fields_9 (by decide) (fun c_1 => ?_) (fun c_1 => ?_)
      · have hf := (if_pos c_1).symm.trans hf
        refine lv_iload_n hx hb dX6_fields_29 rfl (lv_at hl 1 rfl) ?_
        have hf := Option.some.inj hf
        subst hf
        exact my_reti () hx hb hr hlocks hK hP hD hS rfl dX6_fields_30
      · have hf := (if_neg c_1).symm.trans hf
        refine lv_aload_n hx hb dX6_fields_12 rfl (lv_at hl 0 rfl) ?_
        refine lv_iload_n hx hb dX6_fields_13 rfl (lv_at hl 2 rfl) ?_
        obtain ⟨r_2, hq_2, hf⟩ := ob_inv hf
        refine my_cVi (As := [.int v2]) (rest := []) ⟨hx, hb, hml, hown, hts⟩ (c_X6_isAttribute l dC dI cI hM hR hT hZ m_allRows m_allColumns m_rows m_columns m_cells m_cursor m_locked m_insert m_alarms m_rejects m_latest m_thrown m_streamLong m_at m_place m_orders m_escaped m_broken m_signBefore m_free m_waitsLong m_cutOff m_screen m_stream m_waits _ v2 r_2 hq_2) (cwV 1 hts gX6_fields_X6_isAttribute rfl rfl rfl (by decide +kernel) ⟨Nat.le_of_ble_eq_true rfl, Nat.le_of_ble_eq_true rfl⟩) hK hP hD hS hA 0 7 rfl rfl rfl hl.1 rfl (Nat.le_of_ble_eq_true rfl) dX6_fields_14 ⟨Nat.zero_le _, Nat.zero_le _⟩ (fun _ H locs hP hD hS => ?_)
        have hP : va_P (dC, dI) vwCl (wM hM hR hT hZ cI m_allRows m_allColumns m_rows m_columns m_cells m_cursor m_locked m_insert m_alarms m_rejects m_latest m_thrown m_streamLong m_at m_place m_orders m_escaped m_broken m_signBefore m_free m_waitsLong m_cutOff m_screen m_stream m_waits) H := hP
        have hD : va_D A (wM hM hR hT hZ cI m_allRows m_allColumns m_rows m_columns m_cells m_cursor m_locked m_insert m_alarms m_rejects m_latest m_thrown m_streamLong m_at m_place m_orders m_escaped m_broken m_signBefore m_free m_waitsLong m_cutOff m_screen m_stream m_waits) := hD
        refine lv_if_eq (tgt := 23) hx hb dX6_fields_17 (by decide) (fun c_3 => ?_) (fun c_3 => ?_)
        · have hf := (if_pos c_3).symm.trans hf
          refine lv_iinc (v := v2 + 1) (lv' := [(2, .int (v2 + 1)), (0, .ref hM), (1, .int v1)]) hx hb dX6_fields_23 hl (k := 2) rfl rfl (by decide) rfl (fun ls hl => ?_)
          refine lv_goto (tgt := 4) hx hb dX6_fields_26 (by decide) ?_
          exact ih v1 (v2 + 1) _ _ hf  hP hD hS ls (lv_sub hl [1, 2, 0] rfl)
        · have hf := (if_neg c_3).symm.trans hf
          refine lv_iinc (v := v1 + 1) (lv' := [(1, .int (v1 + 1)), (0, .ref hM), (2, .int v2)]) hx hb dX6_fields_20 hl (k := 1) rfl rfl (by decide) rfl (fun ls hl => ?_)
          refine lv_iinc (v := v2 + 1) (lv' := [(2, .int (v2 + 1)), (1, .int (v1 + 1)), (0, .ref hM)]) hx hb dX6_fields_23 hl (k := 2) rfl rfl (by decide) rfl (fun ls hl => ?_)
          refine lv_goto (tgt := 4) hx hb dX6_fields_26 (by decide) ?_
          exact ih (v1 + 1) (v2 + 1) _ _ hf  hP hD hS ls (lv_sub hl [2, 1, 0] rfl)
  unfold f_X6_fields at hf
  refine lv_iconst (v := 0) hx hb dX6_fields_0 (by decide) ?_
  refine lv_istore_n (lv' := [(1, .int 0), (0, .ref hM)]) hx hb dX6_fields_1 rfl hl (by decide) rfl (fun ls hl => ?_)
  refine lv_iconst (v := 0) hx hb dX6_fields_2 (by decide) ?_
  refine lv_istore_n (lv' := [(2, .int 0), (1, .int 0), (0, .ref hM)]) hx hb dX6_fields_3 rfl hl (by decide) rfl (fun ls hl => ?_)
  exact L4 FU 0 0 _ _ hf  hP hD hS ls (lv_sub hl [2, 1, 0] rfl)

theorem uu_X6_attributeAt_X6 : ∀ w ∈ u_ws RX6 TX6 25, w ∈ wsX6_attributeAt := fun _ h => List.mem_cons_of_mem _ (List.mem_append_right _ h)
def f_X6_attributeAt_L4 (m_cells : Int32) (m_screen : Nat → Int32) : Nat → Int32 → Int32 → Int32 → Option (Int32)
  | 0, _, _, _ => none
  | fu + 1, v1, v2, v3 =>
    if m_cells ≤ v3 then
    some (-1)
    else
    Option.bind (f_X6_isAttribute m_screen v3) (fun r_2 =>
    if (b2i r_2) = 0 then
    f_X6_attributeAt_L4 m_cells m_screen fu v1 v2 (v3 + 1)
    else
    if v2 = v1 then
    some v3
    else
    f_X6_attributeAt_L4 m_cells m_screen fu v1 (v2 + 1) (v3 + 1))
def f_X6_attributeAt (m_cells : Int32) (m_screen : Nat → Int32) (a1 : Int32) : Option (Int32) :=
    f_X6_attributeAt_L4 m_cells m_screen FU a1 0 0
set_option maxHeartbeats 400000 in
set_option maxRecDepth 100000 in
theorem c_X6_attributeAt (l : Launch) (dC : Nat → ClassId) (dI : Nat → Nat → Nat) (cI : ClassId) (hM hR hT hZ : Nat) (m_allRows : Int32) (m_allColumns : Int32) (m_rows : Int32) (m_columns : Int32) (m_cells : Int32) (m_cursor : Int32) (m_locked : Bool) (m_insert : Bool) (m_alarms : Int32) (m_rejects : Int32) (m_latest : Int32) (m_thrown : Int32) (m_streamLong : Int32) (m_at : Int32) (m_place : Int32) (m_orders : Int32) (m_escaped : Bool) (m_broken : Bool) (m_signBefore : Bool) (m_free : Bool) (m_waitsLong : Int32) (m_cutOff : Bool) (m_screen : Nat → Int32) (m_stream : Nat → Int32) (m_waits : Nat → Int32) (sz : Nat) (a1 : Int32) (res : Int32) (hf : f_X6_attributeAt m_cells m_screen a1 = some res) : Met l yX6_attributeAt wsX6_attributeAt ({ frames := 1, cells := 0, slots := 0, locals := 21 }) (va_Pc [.ref hM, .int a1] (my_Pre (dC, dI) [(cI, .int)] (wM hM hR hT hZ cI m_allRows m_allColumns m_rows m_columns m_cells m_cursor m_locked m_insert m_alarms m_rejects m_latest m_thrown m_streamLong m_at m_place m_orders m_escaped m_broken m_signBefore m_free m_waitsLong m_cutOff m_screen m_stream m_waits) sz)) (my_Qi (S := Unit) (dC, dI) [(cI, .int)] res (fun _ => wM hM hR hT hZ cI m_allRows m_allColumns m_rows m_columns m_cells m_cursor m_locked m_insert m_alarms m_rejects m_latest m_thrown m_streamLong m_at m_place m_orders m_escaped m_broken m_signBefore m_free m_waitsLong m_cutOff m_screen m_stream m_waits) (va_A (wM hM hR hT hZ cI m_allRows m_allColumns m_rows m_columns m_cells m_cursor m_locked m_insert m_alarms m_rejects m_latest m_thrown m_streamLong m_at m_place m_orders m_escaped m_broken m_signBefore m_free m_waitsLong m_cutOff m_screen m_stream m_waits) sz)) 0 0 (va_A (wM hM hR hT hZ cI m_allRows m_allColumns m_rows m_columns m_cells m_cursor m_locked m_insert m_alarms m_rejects m_latest m_thrown m_streamLong m_at m_place m_orders m_escaped m_broken m_signBefore m_free m_waitsLong m_cutOff m_screen m_stream m_waits) sz) := by
  refine my_enter (cc := cX6_attributeAt) (maxL := 4) (ret := (some .int)) (Qc := my_Qi (S := Unit) (dC, dI) [(cI, .int)] res (fun _ => wM hM hR hT hZ cI m_allRows m_allColumns m_rows m_columns m_cells m_cursor m_locked m_insert m_alarms m_rejects m_latest m_thrown m_streamLong m_at m_place m_orders m_escaped m_broken m_signBefore m_free m_waitsLong m_cutOff m_screen m_stream m_waits)) (by decide) rfl (Nat.le_of_ble_eq_true rfl) ?_
  intro p e s m below meth c A ls hx hb hr hml hts hown hlocks hnm hP hK hD hA hS hl
  have hown : s.vm.findClass RX6 = some m.cls := hown
  have hl : lv_has ls 4 [(0, .ref hM), (1, .int a1)] := hl
  have L4 : ∀ (fu : Nat) (v1 : Int32) (v2 : Int32) (v3 : Int32)   (H : Heap) (locs : List Loc), f_X6_attributeAt_L4 m_cells m_screen fu v1 v2 v3 = some res → va_P (dC, dI) vwCl (wM hM hR hT hZ cI m_allRows m_allColumns m_rows m_columns m_cells m_cursor m_locked m_insert m_alarms m_rejects m_latest m_thrown m_streamLong m_at m_place m_orders m_escaped m_broken m_signBefore m_free m_waitsLong m_cutOff m_screen m_stream m_waits) H → va_D A (wM hM hR hT hZ cI m_allRows m_allColumns m_rows m_columns m_cells m_cursor m_locked m_insert m_alarms m_rejects m_latest m_thrown m_streamLong m_at m_place m_orders m_escaped m_broken m_signBefore m_free m_waitsLong m_cutOff m_screen m_stream m_waits) → va_S A s.heap H locs → ∀ (ls : Array Slot), lv_has ls 4 [(0, .ref hM), (1, .int v1), (2, .int v2), (3, .int v3)] → W p l e (headSpec wsX6_attributeAt ({ frames := 1, cells := 0, slots := 0, locals := 21 })).room s m ([.ref hM, .int a1] : List Value).toArray below meth c H locs 0 0 (MQ below (my_Qi (S := Unit) (dC, dI) [(cI, .int)] res (fun _ => wM hM hR hT hZ cI m_allRows m_allColumns m_rows m_columns m_cells m_cursor m_locked m_insert m_alarms m_rejects m_latest m_thrown m_streamLong m_at m_place m_orders m_escaped m_broken m_signBefore m_free m_waitsLong m_cutOff m_screen m_stream m_waits) A) ([.ref hM, .int a1] : List Value).toArray s 0 0 A) (F0 m 4 ls []) := by
    intro fu
    induction fu with
    | zero =>
      intro v1 v2 v3 H locs hf
      rw [f_X6_attributeAt_L4.eq_1] at hf
      cases hf
    | succ fu ih =>
      intro v1 v2 v3 H locs hf  hP hD hS ls hl
      rw [f_X6_attributeAt_L4.eq_2] at hf
      refine lv_iload_n hx hb dX6_attributeAt_4 rfl (lv_at hl 3 rfl) ?_
      refine lv_aload_n hx hb dX6_attributeAt_5 rfl (lv_at hl 0 rfl) ?_
      refine va_get (D := (dC, dI)) (ci := 7) (v := .int m_cells) (C := RX6) (T := TX6) (N := 25) hx hb hts uu_X6_attributeAt_X6 hown hK hP 0 rfl rfl 4 (by decide) (hts (.fieldLink RX6 46 "BlockScreenModel" "cells" "I") (List.mem_of_getElem? (i := 1) rfl)) (fun _ h9 => h9) rfl dX6_attributeAt_6 ?_
      refine lv_icmp_ge (tgt := 36) hx hb dX6_attributeAt_9 (by decide) (fun c_1 => ?_) (fun c_1 => ?_)
      · have hf := (if_pos c_1).symm.trans hf
        refine lv_iconst (v := (-1)) hx hb dX6_attributeAt_36 (by decide) ?_
        have hf := Option.some.inj hf
        subst hf
        exact my_reti () hx hb hr hlocks hK hP hD hS rfl dX6_attributeAt_37
      · have hf := (if_neg c_1).symm.trans hf
        refine lv_aload_n hx hb dX6_attributeAt_12 rfl (lv_at hl 0 rfl) ?_
        refine lv_iload_n hx hb dX6_attributeAt_13 rfl (lv_at hl 3 rfl) ?_
        obtain ⟨r_2, hq_2, hf⟩ := ob_inv hf
        refine my_cVi (As := [.int v3]) (rest := []) ⟨hx, hb, hml, hown, hts⟩ (c_X6_isAttribute l dC dI cI hM hR hT hZ m_allRows m_allColumns m_rows m_columns m_cells m_cursor m_locked m_insert m_alarms m_rejects m_latest m_thrown m_streamLong m_at m_place m_orders m_escaped m_broken m_signBefore m_free m_waitsLong m_cutOff m_screen m_stream m_waits _ v3 r_2 hq_2) (cwV 1 hts gX6_attributeAt_X6_isAttribute rfl rfl rfl (by decide +kernel) ⟨Nat.le_of_ble_eq_true rfl, Nat.le_of_ble_eq_true rfl⟩) hK hP hD hS hA 0 7 rfl rfl rfl hl.1 rfl (Nat.le_of_ble_eq_true rfl) dX6_attributeAt_14 ⟨Nat.zero_le _, Nat.zero_le _⟩ (fun _ H locs hP hD hS => ?_)
        have hP : va_P (dC, dI) vwCl (wM hM hR hT hZ cI m_allRows m_allColumns m_rows m_columns m_cells m_cursor m_locked m_insert m_alarms m_rejects m_latest m_thrown m_streamLong m_at m_place m_orders m_escaped m_broken m_signBefore m_free m_waitsLong m_cutOff m_screen m_stream m_waits) H := hP
        have hD : va_D A (wM hM hR hT hZ cI m_allRows m_allColumns m_rows m_columns m_cells m_cursor m_locked m_insert m_alarms m_rejects m_latest m_thrown m_streamLong m_at m_place m_orders m_escaped m_broken m_signBefore m_free m_waitsLong m_cutOff m_screen m_stream m_waits) := hD
        refine lv_if_eq (tgt := 30) hx hb dX6_attributeAt_17 (by decide) (fun c_3 => ?_) (fun c_3 => ?_)
        · have hf := (if_pos c_3).symm.trans hf
          refine lv_iinc (v := v3 + 1) (lv' := [(3, .int (v3 + 1)), (0, .ref hM), (1, .int v1), (2, .int v2)]) hx hb dX6_attributeAt_30 hl (k := 3) rfl rfl (by decide) rfl (fun ls hl => ?_)
          refine lv_goto (tgt := 4) hx hb dX6_attributeAt_33 (by decide) ?_
          exact ih v1 v2 (v3 + 1) _ _ hf  hP hD hS ls (lv_sub hl [1, 2, 3, 0] rfl)
        · have hf := (if_neg c_3).symm.trans hf
          refine lv_iload_n hx hb dX6_attributeAt_20 rfl (lv_at hl 2 rfl) ?_
          refine lv_iload_n hx hb dX6_attributeAt_21 rfl (lv_at hl 1 rfl) ?_
          refine lv_icmp_ne (tgt := 27) hx hb dX6_attributeAt_22 (by decide) (fun c_4 => ?_) (fun c_4 => ?_)
          · have hf := (if_neg c_4).symm.trans hf
            refine lv_iinc (v := v2 + 1) (lv' := [(2, .int (v2 + 1)), (0, .ref hM), (1, .int v1), (3, .int v3)]) hx hb dX6_attributeAt_27 hl (k := 2) rfl rfl (by decide) rfl (fun ls hl => ?_)
            refine lv_iinc (v := v3 + 1) (lv' := [(3, .int (v3 + 1)), (2, .int (v2 + 1)), (0, .ref hM), (1, .int v1)]) hx hb dX6_attributeAt_30 hl (k := 3) rfl rfl (by decide) rfl (fun ls hl => ?_)
            refine lv_goto (tgt := 4) hx hb dX6_attributeAt_33 (by decide) ?_
            exact ih v1 (v2 + 1) (v3 + 1) _ _ hf  hP hD hS ls (lv_sub hl [2, 3, 1, 0] rfl)
          · have hf := (if_pos c_4).symm.trans hf
            refine lv_iload_n hx hb dX6_attributeAt_25 rfl (lv_at hl 3 rfl) ?_
            have hf := Option.some.inj hf
            subst hf
            exact my_reti () hx hb hr hlocks hK hP hD hS rfl dX6_attributeAt_26
  unfold f_X6_attributeAt at hf
  refine lv_iconst (v := 0) hx hb dX6_attributeAt_0 (by decide) ?_
  refine lv_istore_n (lv' := [(2, .int 0), (0, .ref hM), (1, .int a1)]) hx hb dX6_attributeAt_1 rfl hl (by decide) rfl (fun ls hl => ?_)
  refine lv_iconst (v := 0) hx hb dX6_attributeAt_2 (by decide) ?_
  refine lv_istore_n (lv' := [(3, .int 0), (2, .int 0), (0, .ref hM), (1, .int a1)]) hx hb dX6_attributeAt_3 rfl hl (by decide) rfl (fun ls hl => ?_)
  exact L4 FU a1 0 0 _ _ hf  hP hD hS ls (lv_sub hl [2, 3, 1, 0] rfl)

theorem uu_X6_toEnd_X6 : ∀ w ∈ u_ws RX6 TX6 25, w ∈ wsX6_toEnd := fun _ h => List.mem_cons_of_mem _ (List.mem_append_right _ h)
def f_X6_toEnd_L16 (m_cells : Int32) (m_screen : Nat → Int32) : Nat → Int32 → Int32 → Option (Int32)
  | 0, _, _ => none
  | fu + 1, v1, v2 =>
    Option.bind (f_X6_round m_cells (v1 + v2)) (fun r_1 =>
    Option.bind (f_X6_isAttribute m_screen r_1) (fun r_2 =>
    if (b2i r_2) = 0 then
    f_X6_toEnd_L16 m_cells m_screen fu v1 (v2 + 1)
    else
    some v2))
def f_X6_toEnd (m_cells : Int32) (m_screen : Nat → Int32) (a1 : Int32) : Option (Int32) :=
    Option.bind (f_X6_fields m_cells m_screen) (fun r_4 =>
    if r_4 = 0 then
    some (m_cells - a1)
    else
    f_X6_toEnd_L16 m_cells m_screen FU a1 0)
set_option maxHeartbeats 400000 in
set_option maxRecDepth 100000 in
theorem c_X6_toEnd (l : Launch) (dC : Nat → ClassId) (dI : Nat → Nat → Nat) (cI : ClassId) (hM hR hT hZ : Nat) (m_allRows : Int32) (m_allColumns : Int32) (m_rows : Int32) (m_columns : Int32) (m_cells : Int32) (m_cursor : Int32) (m_locked : Bool) (m_insert : Bool) (m_alarms : Int32) (m_rejects : Int32) (m_latest : Int32) (m_thrown : Int32) (m_streamLong : Int32) (m_at : Int32) (m_place : Int32) (m_orders : Int32) (m_escaped : Bool) (m_broken : Bool) (m_signBefore : Bool) (m_free : Bool) (m_waitsLong : Int32) (m_cutOff : Bool) (m_screen : Nat → Int32) (m_stream : Nat → Int32) (m_waits : Nat → Int32) (sz : Nat) (a1 : Int32) (res : Int32) (hf : f_X6_toEnd m_cells m_screen a1 = some res) : Met l yX6_toEnd wsX6_toEnd ({ frames := 2, cells := 0, slots := 0, locals := 43 }) (va_Pc [.ref hM, .int a1] (my_Pre (dC, dI) [(cI, .int)] (wM hM hR hT hZ cI m_allRows m_allColumns m_rows m_columns m_cells m_cursor m_locked m_insert m_alarms m_rejects m_latest m_thrown m_streamLong m_at m_place m_orders m_escaped m_broken m_signBefore m_free m_waitsLong m_cutOff m_screen m_stream m_waits) sz)) (my_Qi (S := Unit) (dC, dI) [(cI, .int)] res (fun _ => wM hM hR hT hZ cI m_allRows m_allColumns m_rows m_columns m_cells m_cursor m_locked m_insert m_alarms m_rejects m_latest m_thrown m_streamLong m_at m_place m_orders m_escaped m_broken m_signBefore m_free m_waitsLong m_cutOff m_screen m_stream m_waits) (va_A (wM hM hR hT hZ cI m_allRows m_allColumns m_rows m_columns m_cells m_cursor m_locked m_insert m_alarms m_rejects m_latest m_thrown m_streamLong m_at m_place m_orders m_escaped m_broken m_signBefore m_free m_waitsLong m_cutOff m_screen m_stream m_waits) sz)) 0 0 (va_A (wM hM hR hT hZ cI m_allRows m_allColumns m_rows m_columns m_cells m_cursor m_locked m_insert m_alarms m_rejects m_latest m_thrown m_streamLong m_at m_place m_orders m_escaped m_broken m_signBefore m_free m_waitsLong m_cutOff m_screen m_stream m_waits) sz) := by
  refine my_enter (cc := cX6_toEnd) (maxL := 3) (ret := (some .int)) (Qc := my_Qi (S := Unit) (dC, dI) [(cI, .int)] res (fun _ => wM hM hR hT hZ cI m_allRows m_allColumns m_rows m_columns m_cells m_cursor m_locked m_insert m_alarms m_rejects m_latest m_thrown m_streamLong m_at m_place m_orders m_escaped m_broken m_signBefore m_free m_waitsLong m_cutOff m_screen m_stream m_waits)) (by decide) rfl (Nat.le_of_ble_eq_true rfl) ?_
  intro p e s m below meth c A ls hx hb hr hml hts hown hlocks hnm hP hK hD hA hS hl
  have hown : s.vm.findClass RX6 = some m.cls := hown
  have hl : lv_has ls 3 [(0, .ref hM), (1, .int a1)] := hl
  have L16 : ∀ (fu : Nat) (v1 : Int32) (v2 : Int32)   (H : Heap) (locs : List Loc), f_X6_toEnd_L16 m_cells m_screen fu v1 v2 = some res → va_P (dC, dI) vwCl (wM hM hR hT hZ cI m_allRows m_allColumns m_rows m_columns m_cells m_cursor m_locked m_insert m_alarms m_rejects m_latest m_thrown m_streamLong m_at m_place m_orders m_escaped m_broken m_signBefore m_free m_waitsLong m_cutOff m_screen m_stream m_waits) H → va_D A (wM hM hR hT hZ cI m_allRows m_allColumns m_rows m_columns m_cells m_cursor m_locked m_insert m_alarms m_rejects m_latest m_thrown m_streamLong m_at m_place m_orders m_escaped m_broken m_signBefore m_free m_waitsLong m_cutOff m_screen m_stream m_waits) → va_S A s.heap H locs → ∀ (ls : Array Slot), lv_has ls 3 [(0, .ref hM), (1, .int v1), (2, .int v2)] → W p l e (headSpec wsX6_toEnd ({ frames := 2, cells := 0, slots := 0, locals := 43 })).room s m ([.ref hM, .int a1] : List Value).toArray below meth c H locs 0 0 (MQ below (my_Qi (S := Unit) (dC, dI) [(cI, .int)] res (fun _ => wM hM hR hT hZ cI m_allRows m_allColumns m_rows m_columns m_cells m_cursor m_locked m_insert m_alarms m_rejects m_latest m_thrown m_streamLong m_at m_place m_orders m_escaped m_broken m_signBefore m_free m_waitsLong m_cutOff m_screen m_stream m_waits) A) ([.ref hM, .int a1] : List Value).toArray s 0 0 A) (F0 m 16 ls []) := by
    intro fu
    induction fu with
    | zero =>
      intro v1 v2 H locs hf
      rw [f_X6_toEnd_L16.eq_1] at hf
      cases hf
    | succ fu ih =>
      intro v1 v2 H locs hf  hP hD hS ls hl
      rw [f_X6_toEnd_L16.eq_2] at hf
      refine lv_aload_n hx hb dX6_toEnd_16 rfl (lv_at hl 0 rfl) ?_
      refine lv_aload_n hx hb dX6_toEnd_17 rfl (lv_at hl 0 rfl) ?_
      refine lv_iload_n hx hb dX6_toEnd_18 rfl (lv_at hl 1 rfl) ?_
      refine lv_iload_n hx hb dX6_toEnd_19 rfl (lv_at hl 2 rfl) ?_
      refine lv_iadd hx hb dX6_toEnd_20 ?_
      obtain ⟨r_1, hq_1, hf⟩ := ob_inv hf
      refine my_cVi (As := [.int (v1 + v2)]) (rest := [.ref hM]) ⟨hx, hb, hml, hown, hts⟩ (c_X6_round l dC dI cI hM hR hT hZ m_allRows m_allColumns m_rows m_columns m_cells m_cursor m_locked m_insert m_alarms m_rejects m_latest m_thrown m_streamLong m_at m_place m_orders m_escaped m_broken m_signBefore m_free m_waitsLong m_cutOff m_screen m_stream m_waits _ (v1 + v2) r_1 hq_1) (cwV 1 hts gX6_toEnd_X6_round rfl rfl rfl (by decide +kernel) ⟨Nat.le_of_ble_eq_true rfl, Nat.le_of_ble_eq_true rfl⟩) hK hP hD hS hA 0 7 rfl rfl rfl hl.1 rfl (Nat.le_of_ble_eq_true rfl) dX6_toEnd_21 ⟨Nat.zero_le _, Nat.zero_le _⟩ (fun _ H locs hP hD hS => ?_)
      have hP : va_P (dC, dI) vwCl (wM hM hR hT hZ cI m_allRows m_allColumns m_rows m_columns m_cells m_cursor m_locked m_insert m_alarms m_rejects m_latest m_thrown m_streamLong m_at m_place m_orders m_escaped m_broken m_signBefore m_free m_waitsLong m_cutOff m_screen m_stream m_waits) H := hP
      have hD : va_D A (wM hM hR hT hZ cI m_allRows m_allColumns m_rows m_columns m_cells m_cursor m_locked m_insert m_alarms m_rejects m_latest m_thrown m_streamLong m_at m_place m_orders m_escaped m_broken m_signBefore m_free m_waitsLong m_cutOff m_screen m_stream m_waits) := hD
      obtain ⟨r_2, hq_2, hf⟩ := ob_inv hf
      refine my_cVi (As := [.int r_1]) (rest := []) ⟨hx, hb, hml, hown, hts⟩ (c_X6_isAttribute l dC dI cI hM hR hT hZ m_allRows m_allColumns m_rows m_columns m_cells m_cursor m_locked m_insert m_alarms m_rejects m_latest m_thrown m_streamLong m_at m_place m_orders m_escaped m_broken m_signBefore m_free m_waitsLong m_cutOff m_screen m_stream m_waits _ r_1 r_2 hq_2) (cwV 1 hts gX6_toEnd_X6_isAttribute rfl rfl rfl (by decide +kernel) ⟨Nat.le_of_ble_eq_true rfl, Nat.le_of_ble_eq_true rfl⟩) hK hP hD hS hA 0 7 rfl rfl rfl hl.1 rfl (Nat.le_of_ble_eq_true rfl) dX6_toEnd_24 ⟨Nat.zero_le _, Nat.zero_le _⟩ (fun _ H locs hP hD hS => ?_)
      have hP : va_P (dC, dI) vwCl (wM hM hR hT hZ cI m_allRows m_allColumns m_rows m_columns m_cells m_cursor m_locked m_insert m_alarms m_rejects m_latest m_thrown m_streamLong m_at m_place m_orders m_escaped m_broken m_signBefore m_free m_waitsLong m_cutOff m_screen m_stream m_waits) H := hP
      have hD : va_D A (wM hM hR hT hZ cI m_allRows m_allColumns m_rows m_columns m_cells m_cursor m_locked m_insert m_alarms m_rejects m_latest m_thrown m_streamLong m_at m_place m_orders m_escaped m_broken m_signBefore m_free m_waitsLong m_cutOff m_screen m_stream m_waits) := hD
      refine lv_if_ne (tgt := 36) hx hb dX6_toEnd_27 (by decide) (fun c_3 => ?_) (fun c_3 => ?_)
      · have hf := (if_neg c_3).symm.trans hf
        refine lv_iload_n hx hb dX6_toEnd_36 rfl (lv_at hl 2 rfl) ?_
        have hf := Option.some.inj hf
        subst hf
        exact my_reti () hx hb hr hlocks hK hP hD hS rfl dX6_toEnd_37
      · have hf := (if_pos c_3).symm.trans hf
        refine lv_iinc (v := v2 + 1) (lv' := [(2, .int (v2 + 1)), (0, .ref hM), (1, .int v1)]) hx hb dX6_toEnd_30 hl (k := 2) rfl rfl (by decide) rfl (fun ls hl => ?_)
        refine lv_goto (tgt := 16) hx hb dX6_toEnd_33 (by decide) ?_
        exact ih v1 (v2 + 1) _ _ hf  hP hD hS ls (lv_sub hl [1, 2, 0] rfl)
  unfold f_X6_toEnd at hf
  refine lv_aload_n hx hb dX6_toEnd_0 rfl (lv_at hl 0 rfl) ?_
  obtain ⟨r_4, hq_4, hf⟩ := ob_inv hf
  refine my_cVi (As := []) (rest := []) ⟨hx, hb, hml, hown, hts⟩ (c_X6_fields l dC dI cI hM hR hT hZ m_allRows m_allColumns m_rows m_columns m_cells m_cursor m_locked m_insert m_alarms m_rejects m_latest m_thrown m_streamLong m_at m_place m_orders m_escaped m_broken m_signBefore m_free m_waitsLong m_cutOff m_screen m_stream m_waits _  r_4 hq_4) (cwV 0 hts gX6_toEnd_X6_fields rfl rfl rfl (by decide +kernel) ⟨Nat.le_of_ble_eq_true rfl, Nat.le_of_ble_eq_true rfl⟩) hK hP hD hS hA 0 7 rfl rfl rfl hl.1 rfl (Nat.le_of_ble_eq_true rfl) dX6_toEnd_1 ⟨Nat.zero_le _, Nat.zero_le _⟩ (fun _ H locs hP hD hS => ?_)
  have hP : va_P (dC, dI) vwCl (wM hM hR hT hZ cI m_allRows m_allColumns m_rows m_columns m_cells m_cursor m_locked m_insert m_alarms m_rejects m_latest m_thrown m_streamLong m_at m_place m_orders m_escaped m_broken m_signBefore m_free m_waitsLong m_cutOff m_screen m_stream m_waits) H := hP
  have hD : va_D A (wM hM hR hT hZ cI m_allRows m_allColumns m_rows m_columns m_cells m_cursor m_locked m_insert m_alarms m_rejects m_latest m_thrown m_streamLong m_at m_place m_orders m_escaped m_broken m_signBefore m_free m_waitsLong m_cutOff m_screen m_stream m_waits) := hD
  refine lv_if_ne (tgt := 14) hx hb dX6_toEnd_4 (by decide) (fun c_5 => ?_) (fun c_5 => ?_)
  · have hf := (if_neg c_5).symm.trans hf
    refine lv_iconst (v := 0) hx hb dX6_toEnd_14 (by decide) ?_
    refine lv_istore_n (lv' := [(2, .int 0), (0, .ref hM), (1, .int a1)]) hx hb dX6_toEnd_15 rfl hl (by decide) rfl (fun ls hl => ?_)
    exact L16 FU a1 0 _ _ hf  hP hD hS ls (lv_sub hl [1, 2, 0] rfl)
  · have hf := (if_pos c_5).symm.trans hf
    refine lv_aload_n hx hb dX6_toEnd_7 rfl (lv_at hl 0 rfl) ?_
    refine va_get (D := (dC, dI)) (ci := 7) (v := .int m_cells) (C := RX6) (T := TX6) (N := 25) hx hb hts uu_X6_toEnd_X6 hown hK hP 0 rfl rfl 4 (by decide) (hts (.fieldLink RX6 46 "BlockScreenModel" "cells" "I") (List.mem_of_getElem? (i := 1) rfl)) (fun _ h9 => h9) rfl dX6_toEnd_8 ?_
    refine lv_iload_n hx hb dX6_toEnd_11 rfl (lv_at hl 1 rfl) ?_
    refine lv_isub hx hb dX6_toEnd_12 ?_
    have hf := Option.some.inj hf
    subst hf
    exact my_reti () hx hb hr hlocks hK hP hD hS rfl dX6_toEnd_13

theorem uu_X6_lock_X6 : ∀ w ∈ u_ws RX6 TX6 25, w ∈ wsX6_lock := fun _ h => List.mem_cons_of_mem _ (List.mem_append_right _ h)
def f_X6_lock (m_locked : Bool) : Bool :=
    true
set_option maxHeartbeats 400000 in
set_option maxRecDepth 100000 in
theorem c_X6_lock (l : Launch) (dC : Nat → ClassId) (dI : Nat → Nat → Nat) (cI : ClassId) (hM hR hT hZ : Nat) (m_allRows : Int32) (m_allColumns : Int32) (m_rows : Int32) (m_columns : Int32) (m_cells : Int32) (m_cursor : Int32) (m_locked : Bool) (m_insert : Bool) (m_alarms : Int32) (m_rejects : Int32) (m_latest : Int32) (m_thrown : Int32) (m_streamLong : Int32) (m_at : Int32) (m_place : Int32) (m_orders : Int32) (m_escaped : Bool) (m_broken : Bool) (m_signBefore : Bool) (m_free : Bool) (m_waitsLong : Int32) (m_cutOff : Bool) (m_screen : Nat → Int32) (m_stream : Nat → Int32) (m_waits : Nat → Int32) (sz : Nat)  (res : Bool) (hf : f_X6_lock m_locked = res) : Met l yX6_lock wsX6_lock ({ frames := 0, cells := 0, slots := 0, locals := 0 }) (va_Pc [.ref hM] (my_Pre (dC, dI) [(cI, .int)] (wM hM hR hT hZ cI m_allRows m_allColumns m_rows m_columns m_cells m_cursor m_locked m_insert m_alarms m_rejects m_latest m_thrown m_streamLong m_at m_place m_orders m_escaped m_broken m_signBefore m_free m_waitsLong m_cutOff m_screen m_stream m_waits) sz)) (my_Qv (S := Unit) (dC, dI) [(cI, .int)] (fun _ => wM hM hR hT hZ cI m_allRows m_allColumns m_rows m_columns m_cells m_cursor res m_insert m_alarms m_rejects m_latest m_thrown m_streamLong m_at m_place m_orders m_escaped m_broken m_signBefore m_free m_waitsLong m_cutOff m_screen m_stream m_waits) (va_A (wM hM hR hT hZ cI m_allRows m_allColumns m_rows m_columns m_cells m_cursor m_locked m_insert m_alarms m_rejects m_latest m_thrown m_streamLong m_at m_place m_orders m_escaped m_broken m_signBefore m_free m_waitsLong m_cutOff m_screen m_stream m_waits) sz)) 0 0 (va_A (wM hM hR hT hZ cI m_allRows m_allColumns m_rows m_columns m_cells m_cursor m_locked m_insert m_alarms m_rejects m_latest m_thrown m_streamLong m_at m_place m_orders m_escaped m_broken m_signBefore m_free m_waitsLong m_cutOff m_screen m_stream m_waits) sz) := by
  refine my_enter (cc := cX6_lock) (maxL := 1) (ret := none) (Qc := my_Qv (S := Unit) (dC, dI) [(cI, .int)] (fun _ => wM hM hR hT hZ cI m_allRows m_allColumns m_rows m_columns m_cells m_cursor res m_insert m_alarms m_rejects m_latest m_thrown m_streamLong m_at m_place m_orders m_escaped m_broken m_signBefore m_free m_waitsLong m_cutOff m_screen m_stream m_waits)) (by decide) rfl (Nat.le_of_ble_eq_true rfl) ?_
  intro p e s m below meth c A ls hx hb hr hml hts hown hlocks hnm hP hK hD hA hS hl
  have hown : s.vm.findClass RX6 = some m.cls := hown
  have hl : lv_has ls 1 [(0, .ref hM)] := hl
  unfold f_X6_lock at hf
  refine lv_aload_n hx hb dX6_lock_0 rfl (lv_at hl 0 rfl) ?_
  refine lv_iconst (v := 1) hx hb dX6_lock_1 (by decide) ?_
  refine va_put (D := (dC, dI)) (ci := 7) (v := .int 1) (C := RX6) (T := TX6) (N := 25) hx hb hts uu_X6_lock_X6 tyX6 tyX6_ok nmX6 hown hK hP hD hS 0 rfl rfl 7 (by decide) (hts (.fieldLink RX6 13 "BlockScreenModel" "locked" "Z") (List.mem_of_getElem? (i := 1) rfl)) (fun _ h9 => h9) rfl (tyX6_ok 7 (by decide)) rfl rfl (Nat.le_of_ble_eq_true rfl) dX6_lock_2 (fun H locs hP hD hS => ?_)
  have hP : va_P (dC, dI) vwCl (wM hM hR hT hZ cI m_allRows m_allColumns m_rows m_columns m_cells m_cursor true m_insert m_alarms m_rejects m_latest m_thrown m_streamLong m_at m_place m_orders m_escaped m_broken m_signBefore m_free m_waitsLong m_cutOff m_screen m_stream m_waits) H := hP
  have hD : va_D A (wM hM hR hT hZ cI m_allRows m_allColumns m_rows m_columns m_cells m_cursor true m_insert m_alarms m_rejects m_latest m_thrown m_streamLong m_at m_place m_orders m_escaped m_broken m_signBefore m_free m_waitsLong m_cutOff m_screen m_stream m_waits) := hD
  subst hf
  exact my_retv () hx hb hr hlocks hK hP hD hS dX6_lock_5

theorem uu_X6_rejected_X6 : ∀ w ∈ u_ws RX6 TX6 25, w ∈ wsX6_rejected := fun _ h => List.mem_cons_of_mem _ (List.mem_append_right _ h)
def f_X6_rejected (m_broken : Bool) : Bool :=
    true
set_option maxHeartbeats 400000 in
set_option maxRecDepth 100000 in
theorem c_X6_rejected (l : Launch) (dC : Nat → ClassId) (dI : Nat → Nat → Nat) (cI : ClassId) (hM hR hT hZ : Nat) (m_allRows : Int32) (m_allColumns : Int32) (m_rows : Int32) (m_columns : Int32) (m_cells : Int32) (m_cursor : Int32) (m_locked : Bool) (m_insert : Bool) (m_alarms : Int32) (m_rejects : Int32) (m_latest : Int32) (m_thrown : Int32) (m_streamLong : Int32) (m_at : Int32) (m_place : Int32) (m_orders : Int32) (m_escaped : Bool) (m_broken : Bool) (m_signBefore : Bool) (m_free : Bool) (m_waitsLong : Int32) (m_cutOff : Bool) (m_screen : Nat → Int32) (m_stream : Nat → Int32) (m_waits : Nat → Int32) (sz : Nat)  (res : Bool) (hf : f_X6_rejected m_broken = res) : Met l yX6_rejected wsX6_rejected ({ frames := 0, cells := 0, slots := 0, locals := 0 }) (va_Pc [.ref hM] (my_Pre (dC, dI) [(cI, .int)] (wM hM hR hT hZ cI m_allRows m_allColumns m_rows m_columns m_cells m_cursor m_locked m_insert m_alarms m_rejects m_latest m_thrown m_streamLong m_at m_place m_orders m_escaped m_broken m_signBefore m_free m_waitsLong m_cutOff m_screen m_stream m_waits) sz)) (my_Qv (S := Unit) (dC, dI) [(cI, .int)] (fun _ => wM hM hR hT hZ cI m_allRows m_allColumns m_rows m_columns m_cells m_cursor m_locked m_insert m_alarms m_rejects m_latest m_thrown m_streamLong m_at m_place m_orders m_escaped res m_signBefore m_free m_waitsLong m_cutOff m_screen m_stream m_waits) (va_A (wM hM hR hT hZ cI m_allRows m_allColumns m_rows m_columns m_cells m_cursor m_locked m_insert m_alarms m_rejects m_latest m_thrown m_streamLong m_at m_place m_orders m_escaped m_broken m_signBefore m_free m_waitsLong m_cutOff m_screen m_stream m_waits) sz)) 0 0 (va_A (wM hM hR hT hZ cI m_allRows m_allColumns m_rows m_columns m_cells m_cursor m_locked m_insert m_alarms m_rejects m_latest m_thrown m_streamLong m_at m_place m_orders m_escaped m_broken m_signBefore m_free m_waitsLong m_cutOff m_screen m_stream m_waits) sz) := by
  refine my_enter (cc := cX6_rejected) (maxL := 1) (ret := none) (Qc := my_Qv (S := Unit) (dC, dI) [(cI, .int)] (fun _ => wM hM hR hT hZ cI m_allRows m_allColumns m_rows m_columns m_cells m_cursor m_locked m_insert m_alarms m_rejects m_latest m_thrown m_streamLong m_at m_place m_orders m_escaped res m_signBefore m_free m_waitsLong m_cutOff m_screen m_stream m_waits)) (by decide) rfl (Nat.le_of_ble_eq_true rfl) ?_
  intro p e s m below meth c A ls hx hb hr hml hts hown hlocks hnm hP hK hD hA hS hl
  have hown : s.vm.findClass RX6 = some m.cls := hown
  have hl : lv_has ls 1 [(0, .ref hM)] := hl
  unfold f_X6_rejected at hf
  refine lv_aload_n hx hb dX6_rejected_0 rfl (lv_at hl 0 rfl) ?_
  refine lv_iconst (v := 1) hx hb dX6_rejected_1 (by decide) ?_
  refine va_put (D := (dC, dI)) (ci := 7) (v := .int 1) (C := RX6) (T := TX6) (N := 25) hx hb hts uu_X6_rejected_X6 tyX6 tyX6_ok nmX6 hown hK hP hD hS 0 rfl rfl 19 (by decide) (hts (.fieldLink RX6 73 "BlockScreenModel" "broken" "Z") (List.mem_of_getElem? (i := 1) rfl)) (fun _ h9 => h9) rfl (tyX6_ok 19 (by decide)) rfl rfl (Nat.le_of_ble_eq_true rfl) dX6_rejected_2 (fun H locs hP hD hS => ?_)
  have hP : va_P (dC, dI) vwCl (wM hM hR hT hZ cI m_allRows m_allColumns m_rows m_columns m_cells m_cursor m_locked m_insert m_alarms m_rejects m_latest m_thrown m_streamLong m_at m_place m_orders m_escaped true m_signBefore m_free m_waitsLong m_cutOff m_screen m_stream m_waits) H := hP
  have hD : va_D A (wM hM hR hT hZ cI m_allRows m_allColumns m_rows m_columns m_cells m_cursor m_locked m_insert m_alarms m_rejects m_latest m_thrown m_streamLong m_at m_place m_orders m_escaped true m_signBefore m_free m_waitsLong m_cutOff m_screen m_stream m_waits) := hD
  subst hf
  exact my_retv () hx hb hr hlocks hK hP hD hS dX6_rejected_5

theorem uu_X6_lacks_X6 : ∀ w ∈ u_ws RX6 TX6 25, w ∈ wsX6_lacks := fun _ h => List.mem_cons_of_mem _ (List.mem_append_right _ h)
def f_X6_lacks (m_streamLong : Int32) (m_at : Int32) (m_broken : Bool) (a1 : Int32) : Bool × Bool :=
    if m_streamLong < (m_at + a1) then
    thn (f_X6_rejected m_broken) (fun m_broken_2 =>
    (true, m_broken_2))
    else
    (false, m_broken)
set_option maxHeartbeats 400000 in
set_option maxRecDepth 100000 in
theorem c_X6_lacks (l : Launch) (dC : Nat → ClassId) (dI : Nat → Nat → Nat) (cI : ClassId) (hM hR hT hZ : Nat) (m_allRows : Int32) (m_allColumns : Int32) (m_rows : Int32) (m_columns : Int32) (m_cells : Int32) (m_cursor : Int32) (m_locked : Bool) (m_insert : Bool) (m_alarms : Int32) (m_rejects : Int32) (m_latest : Int32) (m_thrown : Int32) (m_streamLong : Int32) (m_at : Int32) (m_place : Int32) (m_orders : Int32) (m_escaped : Bool) (m_broken : Bool) (m_signBefore : Bool) (m_free : Bool) (m_waitsLong : Int32) (m_cutOff : Bool) (m_screen : Nat → Int32) (m_stream : Nat → Int32) (m_waits : Nat → Int32) (sz : Nat) (a1 : Int32) (res : Bool × Bool) (hf : f_X6_lacks m_streamLong m_at m_broken a1 = res) : Met l yX6_lacks wsX6_lacks ({ frames := 1, cells := 0, slots := 0, locals := 20 }) (va_Pc [.ref hM, .int a1] (my_Pre (dC, dI) [(cI, .int)] (wM hM hR hT hZ cI m_allRows m_allColumns m_rows m_columns m_cells m_cursor m_locked m_insert m_alarms m_rejects m_latest m_thrown m_streamLong m_at m_place m_orders m_escaped m_broken m_signBefore m_free m_waitsLong m_cutOff m_screen m_stream m_waits) sz)) (my_Qi (S := Unit) (dC, dI) [(cI, .int)] (b2i res.1) (fun _ => wM hM hR hT hZ cI m_allRows m_allColumns m_rows m_columns m_cells m_cursor m_locked m_insert m_alarms m_rejects m_latest m_thrown m_streamLong m_at m_place m_orders m_escaped res.2 m_signBefore m_free m_waitsLong m_cutOff m_screen m_stream m_waits) (va_A (wM hM hR hT hZ cI m_allRows m_allColumns m_rows m_columns m_cells m_cursor m_locked m_insert m_alarms m_rejects m_latest m_thrown m_streamLong m_at m_place m_orders m_escaped m_broken m_signBefore m_free m_waitsLong m_cutOff m_screen m_stream m_waits) sz)) 0 0 (va_A (wM hM hR hT hZ cI m_allRows m_allColumns m_rows m_columns m_cells m_cursor m_locked m_insert m_alarms m_rejects m_latest m_thrown m_streamLong m_at m_place m_orders m_escaped m_broken m_signBefore m_free m_waitsLong m_cutOff m_screen m_stream m_waits) sz) := by
  refine my_enter (cc := cX6_lacks) (maxL := 2) (ret := (some .boolean)) (Qc := my_Qi (S := Unit) (dC, dI) [(cI, .int)] (b2i res.1) (fun _ => wM hM hR hT hZ cI m_allRows m_allColumns m_rows m_columns m_cells m_cursor m_locked m_insert m_alarms m_rejects m_latest m_thrown m_streamLong m_at m_place m_orders m_escaped res.2 m_signBefore m_free m_waitsLong m_cutOff m_screen m_stream m_waits)) (by decide) rfl (Nat.le_of_ble_eq_true rfl) ?_
  intro p e s m below meth c A ls hx hb hr hml hts hown hlocks hnm hP hK hD hA hS hl
  have hown : s.vm.findClass RX6 = some m.cls := hown
  have hl : lv_has ls 2 [(0, .ref hM), (1, .int a1)] := hl
  unfold f_X6_lacks at hf
  refine lv_aload_n hx hb dX6_lacks_0 rfl (lv_at hl 0 rfl) ?_
  refine va_get (D := (dC, dI)) (ci := 7) (v := .int m_at) (C := RX6) (T := TX6) (N := 25) hx hb hts uu_X6_lacks_X6 hown hK hP 0 rfl rfl 15 (by decide) (hts (.fieldLink RX6 76 "BlockScreenModel" "at" "I") (List.mem_of_getElem? (i := 1) rfl)) (fun _ h9 => h9) rfl dX6_lacks_1 ?_
  refine lv_iload_n hx hb dX6_lacks_4 rfl (lv_at hl 1 rfl) ?_
  refine lv_iadd hx hb dX6_lacks_5 ?_
  refine lv_aload_n hx hb dX6_lacks_6 rfl (lv_at hl 0 rfl) ?_
  refine va_get (D := (dC, dI)) (ci := 7) (v := .int m_streamLong) (C := RX6) (T := TX6) (N := 25) hx hb hts uu_X6_lacks_X6 hown hK hP 0 rfl rfl 14 (by decide) (hts (.fieldLink RX6 79 "BlockScreenModel" "streamLong" "I") (List.mem_of_getElem? (i := 2) rfl)) (fun _ h9 => h9) rfl dX6_lacks_7 ?_
  refine lv_icmp_gt (tgt := 15) hx hb dX6_lacks_10 (by decide) (fun c_1 => ?_) (fun c_1 => ?_)
  · have hf := (if_pos c_1).symm.trans hf
    refine lv_aload_n hx hb dX6_lacks_15 rfl (lv_at hl 0 rfl) ?_
    obtain ⟨m_broken_2, hq_2, hf⟩ := th_inv hf
    refine my_cVv (As := []) (rest := []) ⟨hx, hb, hml, hown, hts⟩ (c_X6_rejected l dC dI cI hM hR hT hZ m_allRows m_allColumns m_rows m_columns m_cells m_cursor m_locked m_insert m_alarms m_rejects m_latest m_thrown m_streamLong m_at m_place m_orders m_escaped m_broken m_signBefore m_free m_waitsLong m_cutOff m_screen m_stream m_waits _  m_broken_2 hq_2) (cwV 0 hts gX6_lacks_X6_rejected rfl rfl rfl (by decide +kernel) ⟨Nat.le_of_ble_eq_true rfl, Nat.le_of_ble_eq_true rfl⟩) hK hP hD hS hA 0 7 rfl rfl rfl hl.1 rfl (Nat.le_of_ble_eq_true rfl) dX6_lacks_16 ⟨Nat.zero_le _, Nat.zero_le _⟩ (fun _ H locs hP hD hS => ?_)
    have hP : va_P (dC, dI) vwCl (wM hM hR hT hZ cI m_allRows m_allColumns m_rows m_columns m_cells m_cursor m_locked m_insert m_alarms m_rejects m_latest m_thrown m_streamLong m_at m_place m_orders m_escaped m_broken_2 m_signBefore m_free m_waitsLong m_cutOff m_screen m_stream m_waits) H := hP
    have hD : va_D A (wM hM hR hT hZ cI m_allRows m_allColumns m_rows m_columns m_cells m_cursor m_locked m_insert m_alarms m_rejects m_latest m_thrown m_streamLong m_at m_place m_orders m_escaped m_broken_2 m_signBefore m_free m_waitsLong m_cutOff m_screen m_stream m_waits) := hD
    refine lv_iconst (v := 1) hx hb dX6_lacks_19 (by decide) ?_
    subst hf
    exact my_retz () hx hb hr hlocks rfl hK hP hD hS rfl dX6_lacks_20
  · have hf := (if_neg c_1).symm.trans hf
    refine lv_iconst (v := 0) hx hb dX6_lacks_13 (by decide) ?_
    subst hf
    exact my_retz () hx hb hr hlocks rfl hK hP hD hS rfl dX6_lacks_14

theorem uu_X6_take_X6 : ∀ w ∈ u_ws RX6 TX6 25, w ∈ wsX6_take := fun _ h => List.mem_cons_of_mem _ (List.mem_append_right _ h)
def f_X6_take (m_at : Int32) (m_stream : Nat → Int32) : Option (Int32 × Int32) :=
    if ((m_at + 1) - 1) < 0 ∨ 8192 ≤ ((m_at + 1) - 1).toNatClampNeg then none else
    some (m_stream ((m_at + 1) - 1).toNatClampNeg, m_at + 1)
set_option maxHeartbeats 400000 in
set_option maxRecDepth 100000 in
theorem c_X6_take (l : Launch) (dC : Nat → ClassId) (dI : Nat → Nat → Nat) (cI : ClassId) (hM hR hT hZ : Nat) (m_allRows : Int32) (m_allColumns : Int32) (m_rows : Int32) (m_columns : Int32) (m_cells : Int32) (m_cursor : Int32) (m_locked : Bool) (m_insert : Bool) (m_alarms : Int32) (m_rejects : Int32) (m_latest : Int32) (m_thrown : Int32) (m_streamLong : Int32) (m_at : Int32) (m_place : Int32) (m_orders : Int32) (m_escaped : Bool) (m_broken : Bool) (m_signBefore : Bool) (m_free : Bool) (m_waitsLong : Int32) (m_cutOff : Bool) (m_screen : Nat → Int32) (m_stream : Nat → Int32) (m_waits : Nat → Int32) (sz : Nat)  (res : Int32 × Int32) (hf : f_X6_take m_at m_stream = some res) : Met l yX6_take wsX6_take ({ frames := 0, cells := 0, slots := 0, locals := 0 }) (va_Pc [.ref hM] (my_Pre (dC, dI) [(cI, .int)] (wM hM hR hT hZ cI m_allRows m_allColumns m_rows m_columns m_cells m_cursor m_locked m_insert m_alarms m_rejects m_latest m_thrown m_streamLong m_at m_place m_orders m_escaped m_broken m_signBefore m_free m_waitsLong m_cutOff m_screen m_stream m_waits) sz)) (my_Qi (S := Unit) (dC, dI) [(cI, .int)] res.1 (fun _ => wM hM hR hT hZ cI m_allRows m_allColumns m_rows m_columns m_cells m_cursor m_locked m_insert m_alarms m_rejects m_latest m_thrown m_streamLong res.2 m_place m_orders m_escaped m_broken m_signBefore m_free m_waitsLong m_cutOff m_screen m_stream m_waits) (va_A (wM hM hR hT hZ cI m_allRows m_allColumns m_rows m_columns m_cells m_cursor m_locked m_insert m_alarms m_rejects m_latest m_thrown m_streamLong m_at m_place m_orders m_escaped m_broken m_signBefore m_free m_waitsLong m_cutOff m_screen m_stream m_waits) sz)) 0 0 (va_A (wM hM hR hT hZ cI m_allRows m_allColumns m_rows m_columns m_cells m_cursor m_locked m_insert m_alarms m_rejects m_latest m_thrown m_streamLong m_at m_place m_orders m_escaped m_broken m_signBefore m_free m_waitsLong m_cutOff m_screen m_stream m_waits) sz) := by
  refine my_enter (cc := cX6_take) (maxL := 1) (ret := (some .int)) (Qc := my_Qi (S := Unit) (dC, dI) [(cI, .int)] res.1 (fun _ => wM hM hR hT hZ cI m_allRows m_allColumns m_rows m_columns m_cells m_cursor m_locked m_insert m_alarms m_rejects m_latest m_thrown m_streamLong res.2 m_place m_orders m_escaped m_broken m_signBefore m_free m_waitsLong m_cutOff m_screen m_stream m_waits)) (by decide) rfl (Nat.le_of_ble_eq_true rfl) ?_
  intro p e s m below meth c A ls hx hb hr hml hts hown hlocks hnm hP hK hD hA hS hl
  have hown : s.vm.findClass RX6 = some m.cls := hown
  have hl : lv_has ls 1 [(0, .ref hM)] := hl
  unfold f_X6_take at hf
  refine lv_aload_n hx hb dX6_take_0 rfl (lv_at hl 0 rfl) ?_
  refine lv_dup hx hb dX6_take_1 rfl ?_
  refine va_get (D := (dC, dI)) (ci := 7) (v := .int m_at) (C := RX6) (T := TX6) (N := 25) hx hb hts uu_X6_take_X6 hown hK hP 0 rfl rfl 15 (by decide) (hts (.fieldLink RX6 76 "BlockScreenModel" "at" "I") (List.mem_of_getElem? (i := 1) rfl)) (fun _ h9 => h9) rfl dX6_take_2 ?_
  refine lv_iconst (v := 1) hx hb dX6_take_5 (by decide) ?_
  refine lv_iadd hx hb dX6_take_6 ?_
  refine va_put (D := (dC, dI)) (ci := 7) (v := .int (m_at + 1)) (C := RX6) (T := TX6) (N := 25) hx hb hts uu_X6_take_X6 tyX6 tyX6_ok nmX6 hown hK hP hD hS 0 rfl rfl 15 (by decide) (hts (.fieldLink RX6 76 "BlockScreenModel" "at" "I") (List.mem_of_getElem? (i := 1) rfl)) (fun _ h9 => h9) rfl (tyX6_ok 15 (by decide)) rfl rfl (Nat.le_of_ble_eq_true rfl) dX6_take_7 (fun H locs hP hD hS => ?_)
  have hP : va_P (dC, dI) vwCl (wM hM hR hT hZ cI m_allRows m_allColumns m_rows m_columns m_cells m_cursor m_locked m_insert m_alarms m_rejects m_latest m_thrown m_streamLong (m_at + 1) m_place m_orders m_escaped m_broken m_signBefore m_free m_waitsLong m_cutOff m_screen m_stream m_waits) H := hP
  have hD : va_D A (wM hM hR hT hZ cI m_allRows m_allColumns m_rows m_columns m_cells m_cursor m_locked m_insert m_alarms m_rejects m_latest m_thrown m_streamLong (m_at + 1) m_place m_orders m_escaped m_broken m_signBefore m_free m_waitsLong m_cutOff m_screen m_stream m_waits) := hD
  refine lv_aload_n hx hb dX6_take_10 rfl (lv_at hl 0 rfl) ?_
  refine va_get (D := (dC, dI)) (ci := 7) (v := .ref hT) (C := RX6) (T := TX6) (N := 25) hx hb hts uu_X6_take_X6 hown hK hP 0 rfl rfl 13 (by decide) (hts (.fieldLink RX6 21 "BlockScreenModel" "stream" "[I") (List.mem_of_getElem? (i := 2) rfl)) (fun _ h9 => h9) rfl dX6_take_11 ?_
  refine lv_aload_n hx hb dX6_take_14 rfl (lv_at hl 0 rfl) ?_
  refine va_get (D := (dC, dI)) (ci := 7) (v := .int (m_at + 1)) (C := RX6) (T := TX6) (N := 25) hx hb hts uu_X6_take_X6 hown hK hP 0 rfl rfl 15 (by decide) (hts (.fieldLink RX6 76 "BlockScreenModel" "at" "I") (List.mem_of_getElem? (i := 1) rfl)) (fun _ h9 => h9) rfl dX6_take_15 ?_
  refine lv_iconst (v := 1) hx hb dX6_take_18 (by decide) ?_
  refine lv_isub hx hb dX6_take_19 ?_
  rcases Classical.em (((m_at + 1) - 1) < 0 ∨ 8192 ≤ ((m_at + 1) - 1).toNatClampNeg) with c_1 | c_1
  · exact nn_abs ((if_pos c_1).symm.trans hf)
  have hf := (if_neg c_1).symm.trans hf
  refine va_iald hx hb hK hP 2 0 rfl rfl c_1 dX6_take_20 ?_
  have hf := Option.some.inj hf
  subst hf
  exact my_reti () hx hb hr hlocks hK hP hD hS rfl dX6_take_21

def f_X6_isSign (a1 : Int32) : Bool :=
    if a1 = 0 then
    true
    else
    if a1 < 64 then
    false
    else
    true
set_option maxHeartbeats 400000 in
set_option maxRecDepth 100000 in
theorem c_X6_isSign (l : Launch) (dC : Nat → ClassId) (dI : Nat → Nat → Nat) (cI : ClassId) (hM hR hT hZ : Nat) (m_allRows : Int32) (m_allColumns : Int32) (m_rows : Int32) (m_columns : Int32) (m_cells : Int32) (m_cursor : Int32) (m_locked : Bool) (m_insert : Bool) (m_alarms : Int32) (m_rejects : Int32) (m_latest : Int32) (m_thrown : Int32) (m_streamLong : Int32) (m_at : Int32) (m_place : Int32) (m_orders : Int32) (m_escaped : Bool) (m_broken : Bool) (m_signBefore : Bool) (m_free : Bool) (m_waitsLong : Int32) (m_cutOff : Bool) (m_screen : Nat → Int32) (m_stream : Nat → Int32) (m_waits : Nat → Int32) (sz : Nat) (a1 : Int32) (res : Bool) (hf : f_X6_isSign  a1 = res) : Met l yX6_isSign wsX6_isSign ({ frames := 0, cells := 0, slots := 0, locals := 0 }) (va_Pc [.int a1] (my_Pre (dC, dI) [(cI, .int)] (wM hM hR hT hZ cI m_allRows m_allColumns m_rows m_columns m_cells m_cursor m_locked m_insert m_alarms m_rejects m_latest m_thrown m_streamLong m_at m_place m_orders m_escaped m_broken m_signBefore m_free m_waitsLong m_cutOff m_screen m_stream m_waits) sz)) (my_Qi (S := Unit) (dC, dI) [(cI, .int)] (b2i res) (fun _ => wM hM hR hT hZ cI m_allRows m_allColumns m_rows m_columns m_cells m_cursor m_locked m_insert m_alarms m_rejects m_latest m_thrown m_streamLong m_at m_place m_orders m_escaped m_broken m_signBefore m_free m_waitsLong m_cutOff m_screen m_stream m_waits) (va_A (wM hM hR hT hZ cI m_allRows m_allColumns m_rows m_columns m_cells m_cursor m_locked m_insert m_alarms m_rejects m_latest m_thrown m_streamLong m_at m_place m_orders m_escaped m_broken m_signBefore m_free m_waitsLong m_cutOff m_screen m_stream m_waits) sz)) 0 0 (va_A (wM hM hR hT hZ cI m_allRows m_allColumns m_rows m_columns m_cells m_cursor m_locked m_insert m_alarms m_rejects m_latest m_thrown m_streamLong m_at m_place m_orders m_escaped m_broken m_signBefore m_free m_waitsLong m_cutOff m_screen m_stream m_waits) sz) := by
  refine my_enter (cc := cX6_isSign) (maxL := 1) (ret := (some .boolean)) (Qc := my_Qi (S := Unit) (dC, dI) [(cI, .int)] (b2i res) (fun _ => wM hM hR hT hZ cI m_allRows m_allColumns m_rows m_columns m_cells m_cursor m_locked m_insert m_alarms m_rejects m_latest m_thrown m_streamLong m_at m_place m_orders m_escaped m_broken m_signBefore m_free m_waitsLong m_cutOff m_screen m_stream m_waits)) (by decide) rfl (Nat.le_of_ble_eq_true rfl) ?_
  intro p e s m below meth c A ls hx hb hr hml hts hown hlocks hnm hP hK hD hA hS hl
  have hown : s.vm.findClass RX6 = some m.cls := hown
  have hl : lv_has ls 1 [(0, .int a1)] := hl
  unfold f_X6_isSign at hf
  refine lv_iload_n hx hb dX6_isSign_0 rfl (lv_at hl 0 rfl) ?_
  refine lv_if_eq (tgt := 10) hx hb dX6_isSign_1 (by decide) (fun c_1 => ?_) (fun c_1 => ?_)
  · have hf := (if_pos c_1).symm.trans hf
    refine lv_iconst (v := 1) hx hb dX6_isSign_10 (by decide) ?_
    refine lv_goto (tgt := 15) hx hb dX6_isSign_11 (by decide) ?_
    subst hf
    exact my_retz () hx hb hr hlocks rfl hK hP hD hS rfl dX6_isSign_15
  · have hf := (if_neg c_1).symm.trans hf
    refine lv_iload_n hx hb dX6_isSign_4 rfl (lv_at hl 0 rfl) ?_
    refine lv_bipush (v := 64) hx hb dX6_isSign_5 (by decide) ?_
    refine lv_icmp_lt (tgt := 14) hx hb dX6_isSign_7 (by decide) (fun c_2 => ?_) (fun c_2 => ?_)
    · have hf := (if_pos c_2).symm.trans hf
      refine lv_iconst (v := 0) hx hb dX6_isSign_14 (by decide) ?_
      subst hf
      exact my_retz () hx hb hr hlocks rfl hK hP hD hS rfl dX6_isSign_15
    · have hf := (if_neg c_2).symm.trans hf
      refine lv_iconst (v := 1) hx hb dX6_isSign_10 (by decide) ?_
      refine lv_goto (tgt := 15) hx hb dX6_isSign_11 (by decide) ?_
      subst hf
      exact my_retz () hx hb hr hlocks rfl hK hP hD hS rfl dX6_isSign_15

theorem uu_X6_put_X6 : ∀ w ∈ u_ws RX6 TX6 25, w ∈ wsX6_put := fun _ h => List.mem_cons_of_mem _ (List.mem_append_right _ h)
def f_X6_put (m_cells : Int32) (m_place : Int32) (m_screen : Nat → Int32) (a1 : Int32) : Option (Int32 × (Nat → Int32)) :=
    if m_place < 0 ∨ 5676 ≤ m_place.toNatClampNeg then none else
    Option.bind (f_X6_round m_cells (m_place + 1)) (fun r_2 =>
    some (r_2, upd m_screen m_place.toNatClampNeg a1))
set_option maxHeartbeats 400000 in
set_option maxRecDepth 100000 in
theorem c_X6_put (l : Launch) (dC : Nat → ClassId) (dI : Nat → Nat → Nat) (cI : ClassId) (hM hR hT hZ : Nat) (m_allRows : Int32) (m_allColumns : Int32) (m_rows : Int32) (m_columns : Int32) (m_cells : Int32) (m_cursor : Int32) (m_locked : Bool) (m_insert : Bool) (m_alarms : Int32) (m_rejects : Int32) (m_latest : Int32) (m_thrown : Int32) (m_streamLong : Int32) (m_at : Int32) (m_place : Int32) (m_orders : Int32) (m_escaped : Bool) (m_broken : Bool) (m_signBefore : Bool) (m_free : Bool) (m_waitsLong : Int32) (m_cutOff : Bool) (m_screen : Nat → Int32) (m_stream : Nat → Int32) (m_waits : Nat → Int32) (sz : Nat) (a1 : Int32) (res : Int32 × (Nat → Int32)) (hf : f_X6_put m_cells m_place m_screen a1 = some res) : Met l yX6_put wsX6_put ({ frames := 1, cells := 0, slots := 0, locals := 21 }) (va_Pc [.ref hM, .int a1] (my_Pre (dC, dI) [(cI, .int)] (wM hM hR hT hZ cI m_allRows m_allColumns m_rows m_columns m_cells m_cursor m_locked m_insert m_alarms m_rejects m_latest m_thrown m_streamLong m_at m_place m_orders m_escaped m_broken m_signBefore m_free m_waitsLong m_cutOff m_screen m_stream m_waits) sz)) (my_Qv (S := Unit) (dC, dI) [(cI, .int)] (fun _ => wM hM hR hT hZ cI m_allRows m_allColumns m_rows m_columns m_cells m_cursor m_locked m_insert m_alarms m_rejects m_latest m_thrown m_streamLong m_at res.1 m_orders m_escaped m_broken m_signBefore m_free m_waitsLong m_cutOff res.2 m_stream m_waits) (va_A (wM hM hR hT hZ cI m_allRows m_allColumns m_rows m_columns m_cells m_cursor m_locked m_insert m_alarms m_rejects m_latest m_thrown m_streamLong m_at m_place m_orders m_escaped m_broken m_signBefore m_free m_waitsLong m_cutOff m_screen m_stream m_waits) sz)) 0 0 (va_A (wM hM hR hT hZ cI m_allRows m_allColumns m_rows m_columns m_cells m_cursor m_locked m_insert m_alarms m_rejects m_latest m_thrown m_streamLong m_at m_place m_orders m_escaped m_broken m_signBefore m_free m_waitsLong m_cutOff m_screen m_stream m_waits) sz) := by
  refine my_enter (cc := cX6_put) (maxL := 2) (ret := none) (Qc := my_Qv (S := Unit) (dC, dI) [(cI, .int)] (fun _ => wM hM hR hT hZ cI m_allRows m_allColumns m_rows m_columns m_cells m_cursor m_locked m_insert m_alarms m_rejects m_latest m_thrown m_streamLong m_at res.1 m_orders m_escaped m_broken m_signBefore m_free m_waitsLong m_cutOff res.2 m_stream m_waits)) (by decide) rfl (Nat.le_of_ble_eq_true rfl) ?_
  intro p e s m below meth c A ls hx hb hr hml hts hown hlocks hnm hP hK hD hA hS hl
  have hown : s.vm.findClass RX6 = some m.cls := hown
  have hl : lv_has ls 2 [(0, .ref hM), (1, .int a1)] := hl
  unfold f_X6_put at hf
  refine lv_aload_n hx hb dX6_put_0 rfl (lv_at hl 0 rfl) ?_
  refine va_get (D := (dC, dI)) (ci := 7) (v := .ref hR) (C := RX6) (T := TX6) (N := 25) hx hb hts uu_X6_put_X6 hown hK hP 0 rfl rfl 6 (by decide) (hts (.fieldLink RX6 7 "BlockScreenModel" "screen" "[I") (List.mem_of_getElem? (i := 1) rfl)) (fun _ h9 => h9) rfl dX6_put_1 ?_
  refine lv_aload_n hx hb dX6_put_4 rfl (lv_at hl 0 rfl) ?_
  refine va_get (D := (dC, dI)) (ci := 7) (v := .int m_place) (C := RX6) (T := TX6) (N := 25) hx hb hts uu_X6_put_X6 hown hK hP 0 rfl rfl 16 (by decide) (hts (.fieldLink RX6 85 "BlockScreenModel" "place" "I") (List.mem_of_getElem? (i := 2) rfl)) (fun _ h9 => h9) rfl dX6_put_5 ?_
  refine lv_iload_n hx hb dX6_put_8 rfl (lv_at hl 1 rfl) ?_
  rcases Classical.em (m_place < 0 ∨ 5676 ≤ m_place.toNatClampNeg) with c_1 | c_1
  · exact nn_abs ((if_pos c_1).symm.trans hf)
  have hf := (if_neg c_1).symm.trans hf
  refine va_iast hx hb hK hP hD hS 1 0 rfl rfl c_1 dX6_put_9 (fun H locs hP hD hS => ?_)
  have hP : va_P (dC, dI) vwCl (wM hM hR hT hZ cI m_allRows m_allColumns m_rows m_columns m_cells m_cursor m_locked m_insert m_alarms m_rejects m_latest m_thrown m_streamLong m_at m_place m_orders m_escaped m_broken m_signBefore m_free m_waitsLong m_cutOff (upd m_screen m_place.toNatClampNeg a1) m_stream m_waits) H := hP
  have hD : va_D A (wM hM hR hT hZ cI m_allRows m_allColumns m_rows m_columns m_cells m_cursor m_locked m_insert m_alarms m_rejects m_latest m_thrown m_streamLong m_at m_place m_orders m_escaped m_broken m_signBefore m_free m_waitsLong m_cutOff (upd m_screen m_place.toNatClampNeg a1) m_stream m_waits) := hD
  refine lv_aload_n hx hb dX6_put_10 rfl (lv_at hl 0 rfl) ?_
  refine lv_aload_n hx hb dX6_put_11 rfl (lv_at hl 0 rfl) ?_
  refine lv_aload_n hx hb dX6_put_12 rfl (lv_at hl 0 rfl) ?_
  refine va_get (D := (dC, dI)) (ci := 7) (v := .int m_place) (C := RX6) (T := TX6) (N := 25) hx hb hts uu_X6_put_X6 hown hK hP 0 rfl rfl 16 (by decide) (hts (.fieldLink RX6 85 "BlockScreenModel" "place" "I") (List.mem_of_getElem? (i := 2) rfl)) (fun _ h9 => h9) rfl dX6_put_13 ?_
  refine lv_iconst (v := 1) hx hb dX6_put_16 (by decide) ?_
  refine lv_iadd hx hb dX6_put_17 ?_
  obtain ⟨r_2, hq_2, hf⟩ := ob_inv hf
  refine my_cVi (As := [.int (m_place + 1)]) (rest := [.ref hM]) ⟨hx, hb, hml, hown, hts⟩ (c_X6_round l dC dI cI hM hR hT hZ m_allRows m_allColumns m_rows m_columns m_cells m_cursor m_locked m_insert m_alarms m_rejects m_latest m_thrown m_streamLong m_at m_place m_orders m_escaped m_broken m_signBefore m_free m_waitsLong m_cutOff (upd m_screen m_place.toNatClampNeg a1) m_stream m_waits _ (m_place + 1) r_2 hq_2) (cwV 1 hts gX6_put_X6_round rfl rfl rfl (by decide +kernel) ⟨Nat.le_of_ble_eq_true rfl, Nat.le_of_ble_eq_true rfl⟩) hK hP hD hS hA 0 7 rfl rfl rfl hl.1 rfl (Nat.le_of_ble_eq_true rfl) dX6_put_18 ⟨Nat.zero_le _, Nat.zero_le _⟩ (fun _ H locs hP hD hS => ?_)
  have hP : va_P (dC, dI) vwCl (wM hM hR hT hZ cI m_allRows m_allColumns m_rows m_columns m_cells m_cursor m_locked m_insert m_alarms m_rejects m_latest m_thrown m_streamLong m_at m_place m_orders m_escaped m_broken m_signBefore m_free m_waitsLong m_cutOff (upd m_screen m_place.toNatClampNeg a1) m_stream m_waits) H := hP
  have hD : va_D A (wM hM hR hT hZ cI m_allRows m_allColumns m_rows m_columns m_cells m_cursor m_locked m_insert m_alarms m_rejects m_latest m_thrown m_streamLong m_at m_place m_orders m_escaped m_broken m_signBefore m_free m_waitsLong m_cutOff (upd m_screen m_place.toNatClampNeg a1) m_stream m_waits) := hD
  refine va_put (D := (dC, dI)) (ci := 7) (v := .int r_2) (C := RX6) (T := TX6) (N := 25) hx hb hts uu_X6_put_X6 tyX6 tyX6_ok nmX6 hown hK hP hD hS 0 rfl rfl 16 (by decide) (hts (.fieldLink RX6 85 "BlockScreenModel" "place" "I") (List.mem_of_getElem? (i := 2) rfl)) (fun _ h9 => h9) rfl (tyX6_ok 16 (by decide)) rfl rfl (Nat.le_of_ble_eq_true rfl) dX6_put_21 (fun H locs hP hD hS => ?_)
  have hP : va_P (dC, dI) vwCl (wM hM hR hT hZ cI m_allRows m_allColumns m_rows m_columns m_cells m_cursor m_locked m_insert m_alarms m_rejects m_latest m_thrown m_streamLong m_at r_2 m_orders m_escaped m_broken m_signBefore m_free m_waitsLong m_cutOff (upd m_screen m_place.toNatClampNeg a1) m_stream m_waits) H := hP
  have hD : va_D A (wM hM hR hT hZ cI m_allRows m_allColumns m_rows m_columns m_cells m_cursor m_locked m_insert m_alarms m_rejects m_latest m_thrown m_streamLong m_at r_2 m_orders m_escaped m_broken m_signBefore m_free m_waitsLong m_cutOff (upd m_screen m_place.toNatClampNeg a1) m_stream m_waits) := hD
  have hf := Option.some.inj hf
  subst hf
  exact my_retv () hx hb hr hlocks hK hP hD hS dX6_put_24

theorem uu_X6_address_X6 : ∀ w ∈ u_ws RX6 TX6 25, w ∈ wsX6_address := fun _ h => List.mem_cons_of_mem _ (List.mem_append_right _ h)
def f_X6_address (m_cells : Int32) (m_streamLong : Int32) (m_at : Int32) (m_broken : Bool) (m_stream : Nat → Int32) : Option (Int32 × Int32 × Bool) :=
    thn (f_X6_lacks m_streamLong m_at m_broken 2) (fun (r_1, m_broken_1) =>
    if (b2i r_1) = 0 then
    Option.bind (f_X6_take m_at m_stream) (fun (r_3, m_at_3) =>
    Option.bind (f_X6_take m_at_3 m_stream) (fun (r_4, m_at_4) =>
    if 64 ≤ r_3 then
    if m_cells ≤ (((r_3 &&& 63) * 64) + (r_4 &&& 63)) then
    thn (f_X6_rejected m_broken_1) (fun m_broken_7 =>
    some ((-1), m_at_4, m_broken_7))
    else
    some (((r_3 &&& 63) * 64) + (r_4 &&& 63), m_at_4, m_broken_1)
    else
    if m_cells ≤ ((256 * r_3) + r_4) then
    thn (f_X6_rejected m_broken_1) (fun m_broken_9 =>
    some ((-1), m_at_4, m_broken_9))
    else
    some ((256 * r_3) + r_4, m_at_4, m_broken_1)))
    else
    some ((-1), m_at, m_broken_1))
set_option maxHeartbeats 400000 in
set_option maxRecDepth 100000 in
theorem c_X6_address (l : Launch) (dC : Nat → ClassId) (dI : Nat → Nat → Nat) (cI : ClassId) (hM hR hT hZ : Nat) (m_allRows : Int32) (m_allColumns : Int32) (m_rows : Int32) (m_columns : Int32) (m_cells : Int32) (m_cursor : Int32) (m_locked : Bool) (m_insert : Bool) (m_alarms : Int32) (m_rejects : Int32) (m_latest : Int32) (m_thrown : Int32) (m_streamLong : Int32) (m_at : Int32) (m_place : Int32) (m_orders : Int32) (m_escaped : Bool) (m_broken : Bool) (m_signBefore : Bool) (m_free : Bool) (m_waitsLong : Int32) (m_cutOff : Bool) (m_screen : Nat → Int32) (m_stream : Nat → Int32) (m_waits : Nat → Int32) (sz : Nat)  (res : Int32 × Int32 × Bool) (hf : f_X6_address m_cells m_streamLong m_at m_broken m_stream = some res) : Met l yX6_address wsX6_address ({ frames := 2, cells := 0, slots := 0, locals := 41 }) (va_Pc [.ref hM] (my_Pre (dC, dI) [(cI, .int)] (wM hM hR hT hZ cI m_allRows m_allColumns m_rows m_columns m_cells m_cursor m_locked m_insert m_alarms m_rejects m_latest m_thrown m_streamLong m_at m_place m_orders m_escaped m_broken m_signBefore m_free m_waitsLong m_cutOff m_screen m_stream m_waits) sz)) (my_Qi (S := Unit) (dC, dI) [(cI, .int)] res.1 (fun _ => wM hM hR hT hZ cI m_allRows m_allColumns m_rows m_columns m_cells m_cursor m_locked m_insert m_alarms m_rejects m_latest m_thrown m_streamLong res.2.1 m_place m_orders m_escaped res.2.2 m_signBefore m_free m_waitsLong m_cutOff m_screen m_stream m_waits) (va_A (wM hM hR hT hZ cI m_allRows m_allColumns m_rows m_columns m_cells m_cursor m_locked m_insert m_alarms m_rejects m_latest m_thrown m_streamLong m_at m_place m_orders m_escaped m_broken m_signBefore m_free m_waitsLong m_cutOff m_screen m_stream m_waits) sz)) 0 0 (va_A (wM hM hR hT hZ cI m_allRows m_allColumns m_rows m_columns m_cells m_cursor m_locked m_insert m_alarms m_rejects m_latest m_thrown m_streamLong m_at m_place m_orders m_escaped m_broken m_signBefore m_free m_waitsLong m_cutOff m_screen m_stream m_waits) sz) := by
  refine my_enter (cc := cX6_address) (maxL := 4) (ret := (some .int)) (Qc := my_Qi (S := Unit) (dC, dI) [(cI, .int)] res.1 (fun _ => wM hM hR hT hZ cI m_allRows m_allColumns m_rows m_columns m_cells m_cursor m_locked m_insert m_alarms m_rejects m_latest m_thrown m_streamLong res.2.1 m_place m_orders m_escaped res.2.2 m_signBefore m_free m_waitsLong m_cutOff m_screen m_stream m_waits)) (by decide) rfl (Nat.le_of_ble_eq_true rfl) ?_
  intro p e s m below meth c A ls hx hb hr hml hts hown hlocks hnm hP hK hD hA hS hl
  have hown : s.vm.findClass RX6 = some m.cls := hown
  have hl : lv_has ls 4 [(0, .ref hM)] := hl
  unfold f_X6_address at hf
  refine lv_aload_n hx hb dX6_address_0 rfl (lv_at hl 0 rfl) ?_
  refine lv_iconst (v := 2) hx hb dX6_address_1 (by decide) ?_
  obtain ⟨⟨r_1, m_broken_1⟩, hq_1, hf⟩ := th_inv hf
  refine my_cVi (As := [.int 2]) (rest := []) ⟨hx, hb, hml, hown, hts⟩ (c_X6_lacks l dC dI cI hM hR hT hZ m_allRows m_allColumns m_rows m_columns m_cells m_cursor m_locked m_insert m_alarms m_rejects m_latest m_thrown m_streamLong m_at m_place m_orders m_escaped m_broken m_signBefore m_free m_waitsLong m_cutOff m_screen m_stream m_waits _ 2 (r_1, m_broken_1) hq_1) (cwV 1 hts gX6_address_X6_lacks rfl rfl rfl (by decide +kernel) ⟨Nat.le_of_ble_eq_true rfl, Nat.le_of_ble_eq_true rfl⟩) hK hP hD hS hA 0 7 rfl rfl rfl hl.1 rfl (Nat.le_of_ble_eq_true rfl) dX6_address_2 ⟨Nat.zero_le _, Nat.zero_le _⟩ (fun _ H locs hP hD hS => ?_)
  have hP : va_P (dC, dI) vwCl (wM hM hR hT hZ cI m_allRows m_allColumns m_rows m_columns m_cells m_cursor m_locked m_insert m_alarms m_rejects m_latest m_thrown m_streamLong m_at m_place m_orders m_escaped m_broken_1 m_signBefore m_free m_waitsLong m_cutOff m_screen m_stream m_waits) H := hP
  have hD : va_D A (wM hM hR hT hZ cI m_allRows m_allColumns m_rows m_columns m_cells m_cursor m_locked m_insert m_alarms m_rejects m_latest m_thrown m_streamLong m_at m_place m_orders m_escaped m_broken_1 m_signBefore m_free m_waitsLong m_cutOff m_screen m_stream m_waits) := hD
  refine lv_if_eq (tgt := 10) hx hb dX6_address_5 (by decide) (fun c_2 => ?_) (fun c_2 => ?_)
  · have hf := (if_pos c_2).symm.trans hf
    refine lv_aload_n hx hb dX6_address_10 rfl (lv_at hl 0 rfl) ?_
    obtain ⟨⟨r_3, m_at_3⟩, hq_3, hf⟩ := ob_inv hf
    refine my_cVi (As := []) (rest := []) ⟨hx, hb, hml, hown, hts⟩ (c_X6_take l dC dI cI hM hR hT hZ m_allRows m_allColumns m_rows m_columns m_cells m_cursor m_locked m_insert m_alarms m_rejects m_latest m_thrown m_streamLong m_at m_place m_orders m_escaped m_broken_1 m_signBefore m_free m_waitsLong m_cutOff m_screen m_stream m_waits _  (r_3, m_at_3) hq_3) (cwV 0 hts gX6_address_X6_take rfl rfl rfl (by decide +kernel) ⟨Nat.le_of_ble_eq_true rfl, Nat.le_of_ble_eq_true rfl⟩) hK hP hD hS hA 0 7 rfl rfl rfl hl.1 rfl (Nat.le_of_ble_eq_true rfl) dX6_address_11 ⟨Nat.zero_le _, Nat.zero_le _⟩ (fun _ H locs hP hD hS => ?_)
    have hP : va_P (dC, dI) vwCl (wM hM hR hT hZ cI m_allRows m_allColumns m_rows m_columns m_cells m_cursor m_locked m_insert m_alarms m_rejects m_latest m_thrown m_streamLong m_at_3 m_place m_orders m_escaped m_broken_1 m_signBefore m_free m_waitsLong m_cutOff m_screen m_stream m_waits) H := hP
    have hD : va_D A (wM hM hR hT hZ cI m_allRows m_allColumns m_rows m_columns m_cells m_cursor m_locked m_insert m_alarms m_rejects m_latest m_thrown m_streamLong m_at_3 m_place m_orders m_escaped m_broken_1 m_signBefore m_free m_waitsLong m_cutOff m_screen m_stream m_waits) := hD
    refine lv_istore_n (lv' := [(1, .int r_3), (0, .ref hM)]) hx hb dX6_address_14 rfl hl (by decide) rfl (fun ls hl => ?_)
    refine lv_aload_n hx hb dX6_address_15 rfl (lv_at hl 1 rfl) ?_
    obtain ⟨⟨r_4, m_at_4⟩, hq_4, hf⟩ := ob_inv hf
    refine my_cVi (As := []) (rest := []) ⟨hx, hb, hml, hown, hts⟩ (c_X6_take l dC dI cI hM hR hT hZ m_allRows m_allColumns m_rows m_columns m_cells m_cursor m_locked m_insert m_alarms m_rejects m_latest m_thrown m_streamLong m_at_3 m_place m_orders m_escaped m_broken_1 m_signBefore m_free m_waitsLong m_cutOff m_screen m_stream m_waits _  (r_4, m_at_4) hq_4) (cwV 0 hts gX6_address_X6_take rfl rfl rfl (by decide +kernel) ⟨Nat.le_of_ble_eq_true rfl, Nat.le_of_ble_eq_true rfl⟩) hK hP hD hS hA 0 7 rfl rfl rfl hl.1 rfl (Nat.le_of_ble_eq_true rfl) dX6_address_16 ⟨Nat.zero_le _, Nat.zero_le _⟩ (fun _ H locs hP hD hS => ?_)
    have hP : va_P (dC, dI) vwCl (wM hM hR hT hZ cI m_allRows m_allColumns m_rows m_columns m_cells m_cursor m_locked m_insert m_alarms m_rejects m_latest m_thrown m_streamLong m_at_4 m_place m_orders m_escaped m_broken_1 m_signBefore m_free m_waitsLong m_cutOff m_screen m_stream m_waits) H := hP
    have hD : va_D A (wM hM hR hT hZ cI m_allRows m_allColumns m_rows m_columns m_cells m_cursor m_locked m_insert m_alarms m_rejects m_latest m_thrown m_streamLong m_at_4 m_place m_orders m_escaped m_broken_1 m_signBefore m_free m_waitsLong m_cutOff m_screen m_stream m_waits) := hD
    refine lv_istore_n (lv' := [(2, .int r_4), (1, .int r_3), (0, .ref hM)]) hx hb dX6_address_19 rfl hl (by decide) rfl (fun ls hl => ?_)
    refine lv_iload_n hx hb dX6_address_20 rfl (lv_at hl 1 rfl) ?_
    refine lv_bipush (v := 64) hx hb dX6_address_21 (by decide) ?_
    refine lv_icmp_ge (tgt := 36) hx hb dX6_address_23 (by decide) (fun c_5 => ?_) (fun c_5 => ?_)
    · have hf := (if_pos c_5).symm.trans hf
      refine lv_iload_n hx hb dX6_address_36 rfl (lv_at hl 1 rfl) ?_
      refine lv_bipush (v := 63) hx hb dX6_address_37 (by decide) ?_
      refine lv_iand hx hb dX6_address_39 ?_
      refine lv_bipush (v := 64) hx hb dX6_address_40 (by decide) ?_
      refine lv_imul hx hb dX6_address_42 ?_
      refine lv_iload_n hx hb dX6_address_43 rfl (lv_at hl 0 rfl) ?_
      refine lv_bipush (v := 63) hx hb dX6_address_44 (by decide) ?_
      refine lv_iand hx hb dX6_address_46 ?_
      refine lv_iadd hx hb dX6_address_47 ?_
      refine lv_istore_n (lv' := [(3, .int (((r_3 &&& 63) * 64) + (r_4 &&& 63))), (2, .int r_4), (1, .int r_3), (0, .ref hM)]) hx hb dX6_address_48 rfl hl (by decide) rfl (fun ls hl => ?_)
      refine lv_iload_n hx hb dX6_address_49 rfl (lv_at hl 0 rfl) ?_
      refine lv_aload_n hx hb dX6_address_50 rfl (lv_at hl 3 rfl) ?_
      refine va_get (D := (dC, dI)) (ci := 7) (v := .int m_cells) (C := RX6) (T := TX6) (N := 25) hx hb hts uu_X6_address_X6 hown hK hP 0 rfl rfl 4 (by decide) (hts (.fieldLink RX6 46 "BlockScreenModel" "cells" "I") (List.mem_of_getElem? (i := 1) rfl)) (fun _ h9 => h9) rfl dX6_address_51 ?_
      refine lv_icmp_ge (tgt := 59) hx hb dX6_address_54 (by decide) (fun c_6 => ?_) (fun c_6 => ?_)
      · have hf := (if_pos c_6).symm.trans hf
        refine lv_aload_n hx hb dX6_address_59 rfl (lv_at hl 3 rfl) ?_
        obtain ⟨m_broken_7, hq_7, hf⟩ := th_inv hf
        refine my_cVv (As := []) (rest := []) ⟨hx, hb, hml, hown, hts⟩ (c_X6_rejected l dC dI cI hM hR hT hZ m_allRows m_allColumns m_rows m_columns m_cells m_cursor m_locked m_insert m_alarms m_rejects m_latest m_thrown m_streamLong m_at_4 m_place m_orders m_escaped m_broken_1 m_signBefore m_free m_waitsLong m_cutOff m_screen m_stream m_waits _  m_broken_7 hq_7) (cwV 0 hts gX6_address_X6_rejected rfl rfl rfl (by decide +kernel) ⟨Nat.le_of_ble_eq_true rfl, Nat.le_of_ble_eq_true rfl⟩) hK hP hD hS hA 0 7 rfl rfl rfl hl.1 rfl (Nat.le_of_ble_eq_true rfl) dX6_address_60 ⟨Nat.zero_le _, Nat.zero_le _⟩ (fun _ H locs hP hD hS => ?_)
        have hP : va_P (dC, dI) vwCl (wM hM hR hT hZ cI m_allRows m_allColumns m_rows m_columns m_cells m_cursor m_locked m_insert m_alarms m_rejects m_latest m_thrown m_streamLong m_at_4 m_place m_orders m_escaped m_broken_7 m_signBefore m_free m_waitsLong m_cutOff m_screen m_stream m_waits) H := hP
        have hD : va_D A (wM hM hR hT hZ cI m_allRows m_allColumns m_rows m_columns m_cells m_cursor m_locked m_insert m_alarms m_rejects m_latest m_thrown m_streamLong m_at_4 m_place m_orders m_escaped m_broken_7 m_signBefore m_free m_waitsLong m_cutOff m_screen m_stream m_waits) := hD
        refine lv_iconst (v := (-1)) hx hb dX6_address_63 (by decide) ?_
        have hf := Option.some.inj hf
        subst hf
        exact my_reti () hx hb hr hlocks hK hP hD hS rfl dX6_address_64
      · have hf := (if_neg c_6).symm.trans hf
        refine lv_iload_n hx hb dX6_address_57 rfl (lv_at hl 0 rfl) ?_
        have hf := Option.some.inj hf
        subst hf
        exact my_reti () hx hb hr hlocks hK hP hD hS rfl dX6_address_58
    · have hf := (if_neg c_5).symm.trans hf
      refine lv_sipush (v := 256) hx hb dX6_address_26 (by decide) ?_
      refine lv_iload_n hx hb dX6_address_29 rfl (lv_at hl 1 rfl) ?_
      refine lv_imul hx hb dX6_address_30 ?_
      refine lv_iload_n hx hb dX6_address_31 rfl (lv_at hl 0 rfl) ?_
      refine lv_iadd hx hb dX6_address_32 ?_
      refine lv_goto (tgt := 48) hx hb dX6_address_33 (by decide) ?_
      refine lv_istore_n (lv' := [(3, .int ((256 * r_3) + r_4)), (2, .int r_4), (1, .int r_3), (0, .ref hM)]) hx hb dX6_address_48 rfl hl (by decide) rfl (fun ls hl => ?_)
      refine lv_iload_n hx hb dX6_address_49 rfl (lv_at hl 0 rfl) ?_
      refine lv_aload_n hx hb dX6_address_50 rfl (lv_at hl 3 rfl) ?_
      refine va_get (D := (dC, dI)) (ci := 7) (v := .int m_cells) (C := RX6) (T := TX6) (N := 25) hx hb hts uu_X6_address_X6 hown hK hP 0 rfl rfl 4 (by decide) (hts (.fieldLink RX6 46 "BlockScreenModel" "cells" "I") (List.mem_of_getElem? (i := 1) rfl)) (fun _ h9 => h9) rfl dX6_address_51 ?_
      refine lv_icmp_ge (tgt := 59) hx hb dX6_address_54 (by decide) (fun c_8 => ?_) (fun c_8 => ?_)
      · have hf := (if_pos c_8).symm.trans hf
        refine lv_aload_n hx hb dX6_address_59 rfl (lv_at hl 3 rfl) ?_
        obtain ⟨m_broken_9, hq_9, hf⟩ := th_inv hf
        refine my_cVv (As := []) (rest := []) ⟨hx, hb, hml, hown, hts⟩ (c_X6_rejected l dC dI cI hM hR hT hZ m_allRows m_allColumns m_rows m_columns m_cells m_cursor m_locked m_insert m_alarms m_rejects m_latest m_thrown m_streamLong m_at_4 m_place m_orders m_escaped m_broken_1 m_signBefore m_free m_waitsLong m_cutOff m_screen m_stream m_waits _  m_broken_9 hq_9) (cwV 0 hts gX6_address_X6_rejected rfl rfl rfl (by decide +kernel) ⟨Nat.le_of_ble_eq_true rfl, Nat.le_of_ble_eq_true rfl⟩) hK hP hD hS hA 0 7 rfl rfl rfl hl.1 rfl (Nat.le_of_ble_eq_true rfl) dX6_address_60 ⟨Nat.zero_le _, Nat.zero_le _⟩ (fun _ H locs hP hD hS => ?_)
        have hP : va_P (dC, dI) vwCl (wM hM hR hT hZ cI m_allRows m_allColumns m_rows m_columns m_cells m_cursor m_locked m_insert m_alarms m_rejects m_latest m_thrown m_streamLong m_at_4 m_place m_orders m_escaped m_broken_9 m_signBefore m_free m_waitsLong m_cutOff m_screen m_stream m_waits) H := hP
        have hD : va_D A (wM hM hR hT hZ cI m_allRows m_allColumns m_rows m_columns m_cells m_cursor m_locked m_insert m_alarms m_rejects m_latest m_thrown m_streamLong m_at_4 m_place m_orders m_escaped m_broken_9 m_signBefore m_free m_waitsLong m_cutOff m_screen m_stream m_waits) := hD
        refine lv_iconst (v := (-1)) hx hb dX6_address_63 (by decide) ?_
        have hf := Option.some.inj hf
        subst hf
        exact my_reti () hx hb hr hlocks hK hP hD hS rfl dX6_address_64
      · have hf := (if_neg c_8).symm.trans hf
        refine lv_iload_n hx hb dX6_address_57 rfl (lv_at hl 0 rfl) ?_
        have hf := Option.some.inj hf
        subst hf
        exact my_reti () hx hb hr hlocks hK hP hD hS rfl dX6_address_58
  · have hf := (if_neg c_2).symm.trans hf
    refine lv_iconst (v := (-1)) hx hb dX6_address_8 (by decide) ?_
    have hf := Option.some.inj hf
    subst hf
    exact my_reti () hx hb hr hlocks hK hP hD hS rfl dX6_address_9

def f_X6_pairs_L31 (m_streamLong : Int32) (m_stream : Nat → Int32) : Nat → Int32 → Int32 → Int32 → Int32 → Bool → Option (Int32 × Int32 × Bool)
  | 0, _, _, _, _, _ => none
  | fu + 1, v1, v2, v3, z_m_at, z_m_broken =>
    if v1 ≤ v3 then
    some (v2, z_m_at, z_m_broken)
    else
    Option.bind (f_X6_take z_m_at m_stream) (fun (r_2, m_at_2) =>
    Option.bind (f_X6_take m_at_2 m_stream) (fun (r_3, m_at_3) =>
    if r_2 = 192 then
    f_X6_pairs_L31 m_streamLong m_stream fu v1 r_3 (v3 + 1) m_at_3 z_m_broken
    else
    f_X6_pairs_L31 m_streamLong m_stream fu v1 v2 (v3 + 1) m_at_3 z_m_broken))
def f_X6_pairs (m_streamLong : Int32) (m_at : Int32) (m_broken : Bool) (m_stream : Nat → Int32) : Option (Int32 × Int32 × Bool) :=
    thn (f_X6_lacks m_streamLong m_at m_broken 1) (fun (r_5, m_broken_5) =>
    if (b2i r_5) = 0 then
    Option.bind (f_X6_take m_at m_stream) (fun (r_7, m_at_7) =>
    thn (f_X6_lacks m_streamLong m_at_7 m_broken_5 (2 * r_7)) (fun (r_8, m_broken_8) =>
    if (b2i r_8) = 0 then
    f_X6_pairs_L31 m_streamLong m_stream FU r_7 (-1) 0 m_at_7 m_broken_8
    else
    some ((-1), m_at_7, m_broken_8)))
    else
    some ((-1), m_at, m_broken_5))
set_option maxHeartbeats 400000 in
set_option maxRecDepth 100000 in
theorem c_X6_pairs (l : Launch) (dC : Nat → ClassId) (dI : Nat → Nat → Nat) (cI : ClassId) (hM hR hT hZ : Nat) (m_allRows : Int32) (m_allColumns : Int32) (m_rows : Int32) (m_columns : Int32) (m_cells : Int32) (m_cursor : Int32) (m_locked : Bool) (m_insert : Bool) (m_alarms : Int32) (m_rejects : Int32) (m_latest : Int32) (m_thrown : Int32) (m_streamLong : Int32) (m_at : Int32) (m_place : Int32) (m_orders : Int32) (m_escaped : Bool) (m_broken : Bool) (m_signBefore : Bool) (m_free : Bool) (m_waitsLong : Int32) (m_cutOff : Bool) (m_screen : Nat → Int32) (m_stream : Nat → Int32) (m_waits : Nat → Int32) (sz : Nat)  (res : Int32 × Int32 × Bool) (hf : f_X6_pairs m_streamLong m_at m_broken m_stream = some res) : Met l yX6_pairs wsX6_pairs ({ frames := 2, cells := 0, slots := 0, locals := 41 }) (va_Pc [.ref hM] (my_Pre (dC, dI) [(cI, .int)] (wM hM hR hT hZ cI m_allRows m_allColumns m_rows m_columns m_cells m_cursor m_locked m_insert m_alarms m_rejects m_latest m_thrown m_streamLong m_at m_place m_orders m_escaped m_broken m_signBefore m_free m_waitsLong m_cutOff m_screen m_stream m_waits) sz)) (my_Qi (S := Unit) (dC, dI) [(cI, .int)] res.1 (fun _ => wM hM hR hT hZ cI m_allRows m_allColumns m_rows m_columns m_cells m_cursor m_locked m_insert m_alarms m_rejects m_latest m_thrown m_streamLong res.2.1 m_place m_orders m_escaped res.2.2 m_signBefore m_free m_waitsLong m_cutOff m_screen m_stream m_waits) (va_A (wM hM hR hT hZ cI m_allRows m_allColumns m_rows m_columns m_cells m_cursor m_locked m_insert m_alarms m_rejects m_latest m_thrown m_streamLong m_at m_place m_orders m_escaped m_broken m_signBefore m_free m_waitsLong m_cutOff m_screen m_stream m_waits) sz)) 0 0 (va_A (wM hM hR hT hZ cI m_allRows m_allColumns m_rows m_columns m_cells m_cursor m_locked m_insert m_alarms m_rejects m_latest m_thrown m_streamLong m_at m_place m_orders m_escaped m_broken m_signBefore m_free m_waitsLong m_cutOff m_screen m_stream m_waits) sz) := by
  refine my_enter (cc := cX6_pairs) (maxL := 6) (ret := (some .int)) (Qc := my_Qi (S := Unit) (dC, dI) [(cI, .int)] res.1 (fun _ => wM hM hR hT hZ cI m_allRows m_allColumns m_rows m_columns m_cells m_cursor m_locked m_insert m_alarms m_rejects m_latest m_thrown m_streamLong res.2.1 m_place m_orders m_escaped res.2.2 m_signBefore m_free m_waitsLong m_cutOff m_screen m_stream m_waits)) (by decide) rfl (Nat.le_of_ble_eq_true rfl) ?_
  intro p e s m below meth c A ls hx hb hr hml hts hown hlocks hnm hP hK hD hA hS hl
  have hown : s.vm.findClass RX6 = some m.cls := hown
  have hl : lv_has ls 6 [(0, .ref hM)] := hl
  have L31 : ∀ (fu : Nat) (v1 : Int32) (v2 : Int32) (v3 : Int32) (z_m_at : Int32) (z_m_broken : Bool)  (H : Heap) (locs : List Loc), f_X6_pairs_L31 m_streamLong m_stream fu v1 v2 v3 z_m_at z_m_broken = some res → va_P (dC, dI) vwCl (wM hM hR hT hZ cI m_allRows m_allColumns m_rows m_columns m_cells m_cursor m_locked m_insert m_alarms m_rejects m_latest m_thrown m_streamLong z_m_at m_place m_orders m_escaped z_m_broken m_signBefore m_free m_waitsLong m_cutOff m_screen m_stream m_waits) H → va_D A (wM hM hR hT hZ cI m_allRows m_allColumns m_rows m_columns m_cells m_cursor m_locked m_insert m_alarms m_rejects m_latest m_thrown m_streamLong z_m_at m_place m_orders m_escaped z_m_broken m_signBefore m_free m_waitsLong m_cutOff m_screen m_stream m_waits) → va_S A s.heap H locs → ∀ (ls : Array Slot), lv_has ls 6 [(0, .ref hM), (1, .int v1), (2, .int v2), (3, .int v3)] → W p l e (headSpec wsX6_pairs ({ frames := 2, cells := 0, slots := 0, locals := 41 })).room s m ([.ref hM] : List Value).toArray below meth c H locs 0 0 (MQ below (my_Qi (S := Unit) (dC, dI) [(cI, .int)] res.1 (fun _ => wM hM hR hT hZ cI m_allRows m_allColumns m_rows m_columns m_cells m_cursor m_locked m_insert m_alarms m_rejects m_latest m_thrown m_streamLong res.2.1 m_place m_orders m_escaped res.2.2 m_signBefore m_free m_waitsLong m_cutOff m_screen m_stream m_waits) A) ([.ref hM] : List Value).toArray s 0 0 A) (F0 m 31 ls []) := by
    intro fu
    induction fu with
    | zero =>
      intro v1 v2 v3 z_m_at z_m_broken H locs hf
      rw [f_X6_pairs_L31.eq_1] at hf
      cases hf
    | succ fu ih =>
      intro v1 v2 v3 z_m_at z_m_broken H locs hf  hP hD hS ls hl
      rw [f_X6_pairs_L31.eq_2] at hf
      refine lv_iload_n hx hb dX6_pairs_31 rfl (lv_at hl 3 rfl) ?_
      refine lv_iload_n hx hb dX6_pairs_32 rfl (lv_at hl 1 rfl) ?_
      refine lv_icmp_ge (tgt := 65) hx hb dX6_pairs_33 (by decide) (fun c_1 => ?_) (fun c_1 => ?_)
      · have hf := (if_pos c_1).symm.trans hf
        refine lv_iload_n hx hb dX6_pairs_65 rfl (lv_at hl 2 rfl) ?_
        have hf := Option.some.inj hf
        subst hf
        exact my_reti () hx hb hr hlocks hK hP hD hS rfl dX6_pairs_66
      · have hf := (if_neg c_1).symm.trans hf
        refine lv_aload_n hx hb dX6_pairs_36 rfl (lv_at hl 0 rfl) ?_
        obtain ⟨⟨r_2, m_at_2⟩, hq_2, hf⟩ := ob_inv hf
        refine my_cVi (As := []) (rest := []) ⟨hx, hb, hml, hown, hts⟩ (c_X6_take l dC dI cI hM hR hT hZ m_allRows m_allColumns m_rows m_columns m_cells m_cursor m_locked m_insert m_alarms m_rejects m_latest m_thrown m_streamLong z_m_at m_place m_orders m_escaped z_m_broken m_signBefore m_free m_waitsLong m_cutOff m_screen m_stream m_waits _  (r_2, m_at_2) hq_2) (cwV 0 hts gX6_pairs_X6_take rfl rfl rfl (by decide +kernel) ⟨Nat.le_of_ble_eq_true rfl, Nat.le_of_ble_eq_true rfl⟩) hK hP hD hS hA 0 7 rfl rfl rfl hl.1 rfl (Nat.le_of_ble_eq_true rfl) dX6_pairs_37 ⟨Nat.zero_le _, Nat.zero_le _⟩ (fun _ H locs hP hD hS => ?_)
        have hP : va_P (dC, dI) vwCl (wM hM hR hT hZ cI m_allRows m_allColumns m_rows m_columns m_cells m_cursor m_locked m_insert m_alarms m_rejects m_latest m_thrown m_streamLong m_at_2 m_place m_orders m_escaped z_m_broken m_signBefore m_free m_waitsLong m_cutOff m_screen m_stream m_waits) H := hP
        have hD : va_D A (wM hM hR hT hZ cI m_allRows m_allColumns m_rows m_columns m_cells m_cursor m_locked m_insert m_alarms m_rejects m_latest m_thrown m_streamLong m_at_2 m_place m_orders m_escaped z_m_broken m_signBefore m_free m_waitsLong m_cutOff m_screen m_stream m_waits) := hD
        refine lv_istore (lv' := [(4, .int r_2), (0, .ref hM), (1, .int v1), (2, .int v2), (3, .int v3)]) hx hb dX6_pairs_40 hl (by decide) rfl (fun ls hl => ?_)
        refine lv_aload_n hx hb dX6_pairs_42 rfl (lv_at hl 1 rfl) ?_
        obtain ⟨⟨r_3, m_at_3⟩, hq_3, hf⟩ := ob_inv hf
        refine my_cVi (As := []) (rest := []) ⟨hx, hb, hml, hown, hts⟩ (c_X6_take l dC dI cI hM hR hT hZ m_allRows m_allColumns m_rows m_columns m_cells m_cursor m_locked m_insert m_alarms m_rejects m_latest m_thrown m_streamLong m_at_2 m_place m_orders m_escaped z_m_broken m_signBefore m_free m_waitsLong m_cutOff m_screen m_stream m_waits _  (r_3, m_at_3) hq_3) (cwV 0 hts gX6_pairs_X6_take rfl rfl rfl (by decide +kernel) ⟨Nat.le_of_ble_eq_true rfl, Nat.le_of_ble_eq_true rfl⟩) hK hP hD hS hA 0 7 rfl rfl rfl hl.1 rfl (Nat.le_of_ble_eq_true rfl) dX6_pairs_43 ⟨Nat.zero_le _, Nat.zero_le _⟩ (fun _ H locs hP hD hS => ?_)
        have hP : va_P (dC, dI) vwCl (wM hM hR hT hZ cI m_allRows m_allColumns m_rows m_columns m_cells m_cursor m_locked m_insert m_alarms m_rejects m_latest m_thrown m_streamLong m_at_3 m_place m_orders m_escaped z_m_broken m_signBefore m_free m_waitsLong m_cutOff m_screen m_stream m_waits) H := hP
        have hD : va_D A (wM hM hR hT hZ cI m_allRows m_allColumns m_rows m_columns m_cells m_cursor m_locked m_insert m_alarms m_rejects m_latest m_thrown m_streamLong m_at_3 m_place m_orders m_escaped z_m_broken m_signBefore m_free m_waitsLong m_cutOff m_screen m_stream m_waits) := hD
        refine lv_istore (lv' := [(5, .int r_3), (4, .int r_2), (0, .ref hM), (1, .int v1), (2, .int v2), (3, .int v3)]) hx hb dX6_pairs_46 hl (by decide) rfl (fun ls hl => ?_)
        refine lv_iload hx hb dX6_pairs_48 (lv_at hl 1 rfl) ?_
        refine lv_sipush (v := 192) hx hb dX6_pairs_50 (by decide) ?_
        refine lv_icmp_ne (tgt := 59) hx hb dX6_pairs_53 (by decide) (fun c_4 => ?_) (fun c_4 => ?_)
        · have hf := (if_neg c_4).symm.trans hf
          refine lv_iinc (v := v3 + 1) (lv' := [(3, .int (v3 + 1)), (5, .int r_3), (4, .int r_2), (0, .ref hM), (1, .int v1), (2, .int v2)]) hx hb dX6_pairs_59 hl (k := 5) rfl rfl (by decide) rfl (fun ls hl => ?_)
          refine lv_goto (tgt := 31) hx hb dX6_pairs_62 (by decide) ?_
          exact ih v1 v2 (v3 + 1) m_at_3 z_m_broken _ _ hf  hP hD hS ls (lv_sub hl [3, 4, 5, 0] rfl)
        · have hf := (if_pos c_4).symm.trans hf
          refine lv_iload hx hb dX6_pairs_56 (lv_at hl 0 rfl) ?_
          refine lv_istore_n (lv' := [(2, .int r_3), (5, .int r_3), (4, .int r_2), (0, .ref hM), (1, .int v1), (3, .int v3)]) hx hb dX6_pairs_58 rfl hl (by decide) rfl (fun ls hl => ?_)
          refine lv_iinc (v := v3 + 1) (lv' := [(3, .int (v3 + 1)), (2, .int r_3), (5, .int r_3), (4, .int r_2), (0, .ref hM), (1, .int v1)]) hx hb dX6_pairs_59 hl (k := 5) rfl rfl (by decide) rfl (fun ls hl => ?_)
          refine lv_goto (tgt := 31) hx hb dX6_pairs_62 (by decide) ?_
          exact ih v1 r_3 (v3 + 1) m_at_3 z_m_broken _ _ hf  hP hD hS ls (lv_sub hl [4, 5, 1, 0] rfl)
  unfold f_X6_pairs at hf
  refine lv_aload_n hx hb dX6_pairs_0 rfl (lv_at hl 0 rfl) ?_
  refine lv_iconst (v := 1) hx hb dX6_pairs_1 (by decide) ?_
  obtain ⟨⟨r_5, m_broken_5⟩, hq_5, hf⟩ := th_inv hf
  refine my_cVi (As := [.int 1]) (rest := []) ⟨hx, hb, hml, hown, hts⟩ (c_X6_lacks l dC dI cI hM hR hT hZ m_allRows m_allColumns m_rows m_columns m_cells m_cursor m_locked m_insert m_alarms m_rejects m_latest m_thrown m_streamLong m_at m_place m_orders m_escaped m_broken m_signBefore m_free m_waitsLong m_cutOff m_screen m_stream m_waits _ 1 (r_5, m_broken_5) hq_5) (cwV 1 hts gX6_pairs_X6_lacks rfl rfl rfl (by decide +kernel) ⟨Nat.le_of_ble_eq_true rfl, Nat.le_of_ble_eq_true rfl⟩) hK hP hD hS hA 0 7 rfl rfl rfl hl.1 rfl (Nat.le_of_ble_eq_true rfl) dX6_pairs_2 ⟨Nat.zero_le _, Nat.zero_le _⟩ (fun _ H locs hP hD hS => ?_)
  have hP : va_P (dC, dI) vwCl (wM hM hR hT hZ cI m_allRows m_allColumns m_rows m_columns m_cells m_cursor m_locked m_insert m_alarms m_rejects m_latest m_thrown m_streamLong m_at m_place m_orders m_escaped m_broken_5 m_signBefore m_free m_waitsLong m_cutOff m_screen m_stream m_waits) H := hP
  have hD : va_D A (wM hM hR hT hZ cI m_allRows m_allColumns m_rows m_columns m_cells m_cursor m_locked m_insert m_alarms m_rejects m_latest m_thrown m_streamLong m_at m_place m_orders m_escaped m_broken_5 m_signBefore m_free m_waitsLong m_cutOff m_screen m_stream m_waits) := hD
  refine lv_if_eq (tgt := 10) hx hb dX6_pairs_5 (by decide) (fun c_6 => ?_) (fun c_6 => ?_)
  · have hf := (if_pos c_6).symm.trans hf
    refine lv_aload_n hx hb dX6_pairs_10 rfl (lv_at hl 0 rfl) ?_
    obtain ⟨⟨r_7, m_at_7⟩, hq_7, hf⟩ := ob_inv hf
    refine my_cVi (As := []) (rest := []) ⟨hx, hb, hml, hown, hts⟩ (c_X6_take l dC dI cI hM hR hT hZ m_allRows m_allColumns m_rows m_columns m_cells m_cursor m_locked m_insert m_alarms m_rejects m_latest m_thrown m_streamLong m_at m_place m_orders m_escaped m_broken_5 m_signBefore m_free m_waitsLong m_cutOff m_screen m_stream m_waits _  (r_7, m_at_7) hq_7) (cwV 0 hts gX6_pairs_X6_take rfl rfl rfl (by decide +kernel) ⟨Nat.le_of_ble_eq_true rfl, Nat.le_of_ble_eq_true rfl⟩) hK hP hD hS hA 0 7 rfl rfl rfl hl.1 rfl (Nat.le_of_ble_eq_true rfl) dX6_pairs_11 ⟨Nat.zero_le _, Nat.zero_le _⟩ (fun _ H locs hP hD hS => ?_)
    have hP : va_P (dC, dI) vwCl (wM hM hR hT hZ cI m_allRows m_allColumns m_rows m_columns m_cells m_cursor m_locked m_insert m_alarms m_rejects m_latest m_thrown m_streamLong m_at_7 m_place m_orders m_escaped m_broken_5 m_signBefore m_free m_waitsLong m_cutOff m_screen m_stream m_waits) H := hP
    have hD : va_D A (wM hM hR hT hZ cI m_allRows m_allColumns m_rows m_columns m_cells m_cursor m_locked m_insert m_alarms m_rejects m_latest m_thrown m_streamLong m_at_7 m_place m_orders m_escaped m_broken_5 m_signBefore m_free m_waitsLong m_cutOff m_screen m_stream m_waits) := hD
    refine lv_istore_n (lv' := [(1, .int r_7), (0, .ref hM)]) hx hb dX6_pairs_14 rfl hl (by decide) rfl (fun ls hl => ?_)
    refine lv_aload_n hx hb dX6_pairs_15 rfl (lv_at hl 1 rfl) ?_
    refine lv_iconst (v := 2) hx hb dX6_pairs_16 (by decide) ?_
    refine lv_iload_n hx hb dX6_pairs_17 rfl (lv_at hl 0 rfl) ?_
    refine lv_imul hx hb dX6_pairs_18 ?_
    obtain ⟨⟨r_8, m_broken_8⟩, hq_8, hf⟩ := th_inv hf
    refine my_cVi (As := [.int (2 * r_7)]) (rest := []) ⟨hx, hb, hml, hown, hts⟩ (c_X6_lacks l dC dI cI hM hR hT hZ m_allRows m_allColumns m_rows m_columns m_cells m_cursor m_locked m_insert m_alarms m_rejects m_latest m_thrown m_streamLong m_at_7 m_place m_orders m_escaped m_broken_5 m_signBefore m_free m_waitsLong m_cutOff m_screen m_stream m_waits _ (2 * r_7) (r_8, m_broken_8) hq_8) (cwV 1 hts gX6_pairs_X6_lacks rfl rfl rfl (by decide +kernel) ⟨Nat.le_of_ble_eq_true rfl, Nat.le_of_ble_eq_true rfl⟩) hK hP hD hS hA 0 7 rfl rfl rfl hl.1 rfl (Nat.le_of_ble_eq_true rfl) dX6_pairs_19 ⟨Nat.zero_le _, Nat.zero_le _⟩ (fun _ H locs hP hD hS => ?_)
    have hP : va_P (dC, dI) vwCl (wM hM hR hT hZ cI m_allRows m_allColumns m_rows m_columns m_cells m_cursor m_locked m_insert m_alarms m_rejects m_latest m_thrown m_streamLong m_at_7 m_place m_orders m_escaped m_broken_8 m_signBefore m_free m_waitsLong m_cutOff m_screen m_stream m_waits) H := hP
    have hD : va_D A (wM hM hR hT hZ cI m_allRows m_allColumns m_rows m_columns m_cells m_cursor m_locked m_insert m_alarms m_rejects m_latest m_thrown m_streamLong m_at_7 m_place m_orders m_escaped m_broken_8 m_signBefore m_free m_waitsLong m_cutOff m_screen m_stream m_waits) := hD
    refine lv_if_eq (tgt := 27) hx hb dX6_pairs_22 (by decide) (fun c_9 => ?_) (fun c_9 => ?_)
    · have hf := (if_pos c_9).symm.trans hf
      refine lv_iconst (v := (-1)) hx hb dX6_pairs_27 (by decide) ?_
      refine lv_istore_n (lv' := [(2, .int (-1)), (1, .int r_7), (0, .ref hM)]) hx hb dX6_pairs_28 rfl hl (by decide) rfl (fun ls hl => ?_)
      refine lv_iconst (v := 0) hx hb dX6_pairs_29 (by decide) ?_
      refine lv_istore_n (lv' := [(3, .int 0), (2, .int (-1)), (1, .int r_7), (0, .ref hM)]) hx hb dX6_pairs_30 rfl hl (by decide) rfl (fun ls hl => ?_)
      exact L31 FU r_7 (-1) 0 m_at_7 m_broken_8 _ _ hf  hP hD hS ls (lv_sub hl [3, 2, 1, 0] rfl)
    · have hf := (if_neg c_9).symm.trans hf
      refine lv_iconst (v := (-1)) hx hb dX6_pairs_25 (by decide) ?_
      have hf := Option.some.inj hf
      subst hf
      exact my_reti () hx hb hr hlocks hK hP hD hS rfl dX6_pairs_26
  · have hf := (if_neg c_6).symm.trans hf
    refine lv_iconst (v := (-1)) hx hb dX6_pairs_8 (by decide) ?_
    have hf := Option.some.inj hf
    subst hf
    exact my_reti () hx hb hr hlocks hK hP hD hS rfl dX6_pairs_9

theorem uu_X6_goOnToField_X6 : ∀ w ∈ u_ws RX6 TX6 25, w ∈ wsX6_goOnToField := fun _ h => List.mem_cons_of_mem _ (List.mem_append_right _ h)
def f_X6_goOnToField_L46 (m_cells : Int32) (m_signBefore : Bool) : Nat → Int32 → Int32 → (Nat → Int32) → Option (Int32 × (Nat → Int32))
  | 0, _, _, _ => none
  | fu + 1, v1, z_m_place, z_m_screen =>
    if m_cells ≤ v1 then
    some (0, z_m_screen)
    else
    Option.bind (f_X6_isAttribute z_m_screen v1) (fun r_2 =>
    if (b2i r_2) = 0 then
    f_X6_goOnToField_L46 m_cells m_signBefore fu (v1 + 1) z_m_place z_m_screen
    else
    if v1 < 0 ∨ 5676 ≤ v1.toNatClampNeg then none else
    if ((z_m_screen v1.toNatClampNeg) &&& 32) = 0 then
    Option.bind (f_X6_round m_cells (v1 + 1)) (fun r_6 =>
    some (r_6, z_m_screen))
    else
    f_X6_goOnToField_L46 m_cells m_signBefore fu (v1 + 1) z_m_place z_m_screen)
def f_X6_goOnToField_L12 (m_cells : Int32) (m_signBefore : Bool) : Nat → Int32 → Int32 → (Nat → Int32) → Option (Int32 × (Nat → Int32))
  | 0, _, _, _ => none
  | fu + 1, v1, z_m_place, z_m_screen =>
    if m_cells ≤ v1 then
    f_X6_goOnToField_L46 m_cells m_signBefore FU z_m_place z_m_place z_m_screen
    else
    Option.bind (f_X6_isAttribute z_m_screen v1) (fun r_8 =>
    if (b2i r_8) = 0 then
    if v1 < 0 ∨ 5676 ≤ v1.toNatClampNeg then none else
    f_X6_goOnToField_L12 m_cells m_signBefore fu (v1 + 1) z_m_place (upd z_m_screen v1.toNatClampNeg 0)
    else
    f_X6_goOnToField_L46 m_cells m_signBefore FU z_m_place z_m_place z_m_screen)
def f_X6_goOnToField (m_cells : Int32) (m_place : Int32) (m_signBefore : Bool) (m_screen : Nat → Int32) : Option (Int32 × (Nat → Int32)) :=
    if (b2i m_signBefore) = 0 then
    f_X6_goOnToField_L46 m_cells m_signBefore FU m_place m_place m_screen
    else
    f_X6_goOnToField_L12 m_cells m_signBefore FU m_place m_place m_screen
set_option maxHeartbeats 400000 in
set_option maxRecDepth 100000 in
theorem c_X6_goOnToField (l : Launch) (dC : Nat → ClassId) (dI : Nat → Nat → Nat) (cI : ClassId) (hM hR hT hZ : Nat) (m_allRows : Int32) (m_allColumns : Int32) (m_rows : Int32) (m_columns : Int32) (m_cells : Int32) (m_cursor : Int32) (m_locked : Bool) (m_insert : Bool) (m_alarms : Int32) (m_rejects : Int32) (m_latest : Int32) (m_thrown : Int32) (m_streamLong : Int32) (m_at : Int32) (m_place : Int32) (m_orders : Int32) (m_escaped : Bool) (m_broken : Bool) (m_signBefore : Bool) (m_free : Bool) (m_waitsLong : Int32) (m_cutOff : Bool) (m_screen : Nat → Int32) (m_stream : Nat → Int32) (m_waits : Nat → Int32) (sz : Nat)  (res : Int32 × (Nat → Int32)) (hf : f_X6_goOnToField m_cells m_place m_signBefore m_screen = some res) : Met l yX6_goOnToField wsX6_goOnToField ({ frames := 1, cells := 0, slots := 0, locals := 21 }) (va_Pc [.ref hM] (my_Pre (dC, dI) [(cI, .int)] (wM hM hR hT hZ cI m_allRows m_allColumns m_rows m_columns m_cells m_cursor m_locked m_insert m_alarms m_rejects m_latest m_thrown m_streamLong m_at m_place m_orders m_escaped m_broken m_signBefore m_free m_waitsLong m_cutOff m_screen m_stream m_waits) sz)) (my_Qv (S := Unit) (dC, dI) [(cI, .int)] (fun _ => wM hM hR hT hZ cI m_allRows m_allColumns m_rows m_columns m_cells m_cursor m_locked m_insert m_alarms m_rejects m_latest m_thrown m_streamLong m_at res.1 m_orders m_escaped m_broken m_signBefore m_free m_waitsLong m_cutOff res.2 m_stream m_waits) (va_A (wM hM hR hT hZ cI m_allRows m_allColumns m_rows m_columns m_cells m_cursor m_locked m_insert m_alarms m_rejects m_latest m_thrown m_streamLong m_at m_place m_orders m_escaped m_broken m_signBefore m_free m_waitsLong m_cutOff m_screen m_stream m_waits) sz)) 0 0 (va_A (wM hM hR hT hZ cI m_allRows m_allColumns m_rows m_columns m_cells m_cursor m_locked m_insert m_alarms m_rejects m_latest m_thrown m_streamLong m_at m_place m_orders m_escaped m_broken m_signBefore m_free m_waitsLong m_cutOff m_screen m_stream m_waits) sz) := by
  refine my_enter (cc := cX6_goOnToField) (maxL := 2) (ret := none) (Qc := my_Qv (S := Unit) (dC, dI) [(cI, .int)] (fun _ => wM hM hR hT hZ cI m_allRows m_allColumns m_rows m_columns m_cells m_cursor m_locked m_insert m_alarms m_rejects m_latest m_thrown m_streamLong m_at res.1 m_orders m_escaped m_broken m_signBefore m_free m_waitsLong m_cutOff res.2 m_stream m_waits)) (by decide) rfl (Nat.le_of_ble_eq_true rfl) ?_
  intro p e s m below meth c A ls hx hb hr hml hts hown hlocks hnm hP hK hD hA hS hl
  have hown : s.vm.findClass RX6 = some m.cls := hown
  have hl : lv_has ls 2 [(0, .ref hM)] := hl
  have L46 : ∀ (fu : Nat) (v1 : Int32) (z_m_place : Int32) (z_m_screen : Nat → Int32)  (H : Heap) (locs : List Loc), f_X6_goOnToField_L46 m_cells m_signBefore fu v1 z_m_place z_m_screen = some res → va_P (dC, dI) vwCl (wM hM hR hT hZ cI m_allRows m_allColumns m_rows m_columns m_cells m_cursor m_locked m_insert m_alarms m_rejects m_latest m_thrown m_streamLong m_at z_m_place m_orders m_escaped m_broken m_signBefore m_free m_waitsLong m_cutOff z_m_screen m_stream m_waits) H → va_D A (wM hM hR hT hZ cI m_allRows m_allColumns m_rows m_columns m_cells m_cursor m_locked m_insert m_alarms m_rejects m_latest m_thrown m_streamLong m_at z_m_place m_orders m_escaped m_broken m_signBefore m_free m_waitsLong m_cutOff z_m_screen m_stream m_waits) → va_S A s.heap H locs → ∀ (ls : Array Slot), lv_has ls 2 [(0, .ref hM), (1, .int v1)] → W p l e (headSpec wsX6_goOnToField ({ frames := 1, cells := 0, slots := 0, locals := 21 })).room s m ([.ref hM] : List Value).toArray below meth c H locs 0 0 (MQ below (my_Qv (S := Unit) (dC, dI) [(cI, .int)] (fun _ => wM hM hR hT hZ cI m_allRows m_allColumns m_rows m_columns m_cells m_cursor m_locked m_insert m_alarms m_rejects m_latest m_thrown m_streamLong m_at res.1 m_orders m_escaped m_broken m_signBefore m_free m_waitsLong m_cutOff res.2 m_stream m_waits) A) ([.ref hM] : List Value).toArray s 0 0 A) (F0 m 46 ls []) := by
    intro fu
    induction fu with
    | zero =>
      intro v1 z_m_place z_m_screen H locs hf
      rw [f_X6_goOnToField_L46.eq_1] at hf
      cases hf
    | succ fu ih =>
      intro v1 z_m_place z_m_screen H locs hf  hP hD hS ls hl
      rw [f_X6_goOnToField_L46.eq_2] at hf
      refine lv_iload_n hx hb dX6_goOnToField_46 rfl (lv_at hl 1 rfl) ?_
      refine lv_aload_n hx hb dX6_goOnToField_47 rfl (lv_at hl 0 rfl) ?_
      refine va_get (D := (dC, dI)) (ci := 7) (v := .int m_cells) (C := RX6) (T := TX6) (N := 25) hx hb hts uu_X6_goOnToField_X6 hown hK hP 0 rfl rfl 4 (by decide) (hts (.fieldLink RX6 46 "BlockScreenModel" "cells" "I") (List.mem_of_getElem? (i := 3) rfl)) (fun _ h9 => h9) rfl dX6_goOnToField_48 ?_
      refine lv_icmp_ge (tgt := 92) hx hb dX6_goOnToField_51 (by decide) (fun c_1 => ?_) (fun c_1 => ?_)
      · have hf := (if_pos c_1).symm.trans hf
        refine lv_aload_n hx hb dX6_goOnToField_92 rfl (lv_at hl 0 rfl) ?_
        refine lv_iconst (v := 0) hx hb dX6_goOnToField_93 (by decide) ?_
        refine va_put (D := (dC, dI)) (ci := 7) (v := .int 0) (C := RX6) (T := TX6) (N := 25) hx hb hts uu_X6_goOnToField_X6 tyX6 tyX6_ok nmX6 hown hK hP hD hS 0 rfl rfl 16 (by decide) (hts (.fieldLink RX6 85 "BlockScreenModel" "place" "I") (List.mem_of_getElem? (i := 2) rfl)) (fun _ h9 => h9) rfl (tyX6_ok 16 (by decide)) rfl rfl (Nat.le_of_ble_eq_true rfl) dX6_goOnToField_94 (fun H locs hP hD hS => ?_)
        have hP : va_P (dC, dI) vwCl (wM hM hR hT hZ cI m_allRows m_allColumns m_rows m_columns m_cells m_cursor m_locked m_insert m_alarms m_rejects m_latest m_thrown m_streamLong m_at 0 m_orders m_escaped m_broken m_signBefore m_free m_waitsLong m_cutOff z_m_screen m_stream m_waits) H := hP
        have hD : va_D A (wM hM hR hT hZ cI m_allRows m_allColumns m_rows m_columns m_cells m_cursor m_locked m_insert m_alarms m_rejects m_latest m_thrown m_streamLong m_at 0 m_orders m_escaped m_broken m_signBefore m_free m_waitsLong m_cutOff z_m_screen m_stream m_waits) := hD
        have hf := Option.some.inj hf
        subst hf
        exact my_retv () hx hb hr hlocks hK hP hD hS dX6_goOnToField_97
      · have hf := (if_neg c_1).symm.trans hf
        refine lv_aload_n hx hb dX6_goOnToField_54 rfl (lv_at hl 0 rfl) ?_
        refine lv_iload_n hx hb dX6_goOnToField_55 rfl (lv_at hl 1 rfl) ?_
        obtain ⟨r_2, hq_2, hf⟩ := ob_inv hf
        refine my_cVi (As := [.int v1]) (rest := []) ⟨hx, hb, hml, hown, hts⟩ (c_X6_isAttribute l dC dI cI hM hR hT hZ m_allRows m_allColumns m_rows m_columns m_cells m_cursor m_locked m_insert m_alarms m_rejects m_latest m_thrown m_streamLong m_at z_m_place m_orders m_escaped m_broken m_signBefore m_free m_waitsLong m_cutOff z_m_screen m_stream m_waits _ v1 r_2 hq_2) (cwV 1 hts gX6_goOnToField_X6_isAttribute rfl rfl rfl (by decide +kernel) ⟨Nat.le_of_ble_eq_true rfl, Nat.le_of_ble_eq_true rfl⟩) hK hP hD hS hA 0 7 rfl rfl rfl hl.1 rfl (Nat.le_of_ble_eq_true rfl) dX6_goOnToField_56 ⟨Nat.zero_le _, Nat.zero_le _⟩ (fun _ H locs hP hD hS => ?_)
        have hP : va_P (dC, dI) vwCl (wM hM hR hT hZ cI m_allRows m_allColumns m_rows m_columns m_cells m_cursor m_locked m_insert m_alarms m_rejects m_latest m_thrown m_streamLong m_at z_m_place m_orders m_escaped m_broken m_signBefore m_free m_waitsLong m_cutOff z_m_screen m_stream m_waits) H := hP
        have hD : va_D A (wM hM hR hT hZ cI m_allRows m_allColumns m_rows m_columns m_cells m_cursor m_locked m_insert m_alarms m_rejects m_latest m_thrown m_streamLong m_at z_m_place m_orders m_escaped m_broken m_signBefore m_free m_waitsLong m_cutOff z_m_screen m_stream m_waits) := hD
        refine lv_if_eq (tgt := 86) hx hb dX6_goOnToField_59 (by decide) (fun c_3 => ?_) (fun c_3 => ?_)
        · have hf := (if_pos c_3).symm.trans hf
          refine lv_iinc (v := v1 + 1) (lv' := [(1, .int (v1 + 1)), (0, .ref hM)]) hx hb dX6_goOnToField_86 hl (k := 1) rfl rfl (by decide) rfl (fun ls hl => ?_)
          refine lv_goto (tgt := 46) hx hb dX6_goOnToField_89 (by decide) ?_
          exact ih (v1 + 1) z_m_place z_m_screen _ _ hf  hP hD hS ls (lv_sub hl [1, 0] rfl)
        · have hf := (if_neg c_3).symm.trans hf
          refine lv_aload_n hx hb dX6_goOnToField_62 rfl (lv_at hl 0 rfl) ?_
          refine va_get (D := (dC, dI)) (ci := 7) (v := .ref hR) (C := RX6) (T := TX6) (N := 25) hx hb hts uu_X6_goOnToField_X6 hown hK hP 0 rfl rfl 6 (by decide) (hts (.fieldLink RX6 7 "BlockScreenModel" "screen" "[I") (List.mem_of_getElem? (i := 4) rfl)) (fun _ h9 => h9) rfl dX6_goOnToField_63 ?_
          refine lv_iload_n hx hb dX6_goOnToField_66 rfl (lv_at hl 1 rfl) ?_
          rcases Classical.em (v1 < 0 ∨ 5676 ≤ v1.toNatClampNeg) with c_4 | c_4
          · exact nn_abs ((if_pos c_4).symm.trans hf)
          have hf := (if_neg c_4).symm.trans hf
          refine va_iald hx hb hK hP 1 0 rfl rfl c_4 dX6_goOnToField_67 ?_
          refine lv_bipush (v := 32) hx hb dX6_goOnToField_68 (by decide) ?_
          refine lv_iand hx hb dX6_goOnToField_70 ?_
          refine lv_if_ne (tgt := 86) hx hb dX6_goOnToField_71 (by decide) (fun c_5 => ?_) (fun c_5 => ?_)
          · have hf := (if_neg c_5).symm.trans hf
            refine lv_iinc (v := v1 + 1) (lv' := [(1, .int (v1 + 1)), (0, .ref hM)]) hx hb dX6_goOnToField_86 hl (k := 1) rfl rfl (by decide) rfl (fun ls hl => ?_)
            refine lv_goto (tgt := 46) hx hb dX6_goOnToField_89 (by decide) ?_
            exact ih (v1 + 1) z_m_place z_m_screen _ _ hf  hP hD hS ls (lv_sub hl [1, 0] rfl)
          · have hf := (if_pos c_5).symm.trans hf
            refine lv_aload_n hx hb dX6_goOnToField_74 rfl (lv_at hl 0 rfl) ?_
            refine lv_aload_n hx hb dX6_goOnToField_75 rfl (lv_at hl 0 rfl) ?_
            refine lv_iload_n hx hb dX6_goOnToField_76 rfl (lv_at hl 1 rfl) ?_
            refine lv_iconst (v := 1) hx hb dX6_goOnToField_77 (by decide) ?_
            refine lv_iadd hx hb dX6_goOnToField_78 ?_
            obtain ⟨r_6, hq_6, hf⟩ := ob_inv hf
            refine my_cVi (As := [.int (v1 + 1)]) (rest := [.ref hM]) ⟨hx, hb, hml, hown, hts⟩ (c_X6_round l dC dI cI hM hR hT hZ m_allRows m_allColumns m_rows m_columns m_cells m_cursor m_locked m_insert m_alarms m_rejects m_latest m_thrown m_streamLong m_at z_m_place m_orders m_escaped m_broken m_signBefore m_free m_waitsLong m_cutOff z_m_screen m_stream m_waits _ (v1 + 1) r_6 hq_6) (cwV 1 hts gX6_goOnToField_X6_round rfl rfl rfl (by decide +kernel) ⟨Nat.le_of_ble_eq_true rfl, Nat.le_of_ble_eq_true rfl⟩) hK hP hD hS hA 0 7 rfl rfl rfl hl.1 rfl (Nat.le_of_ble_eq_true rfl) dX6_goOnToField_79 ⟨Nat.zero_le _, Nat.zero_le _⟩ (fun _ H locs hP hD hS => ?_)
            have hP : va_P (dC, dI) vwCl (wM hM hR hT hZ cI m_allRows m_allColumns m_rows m_columns m_cells m_cursor m_locked m_insert m_alarms m_rejects m_latest m_thrown m_streamLong m_at z_m_place m_orders m_escaped m_broken m_signBefore m_free m_waitsLong m_cutOff z_m_screen m_stream m_waits) H := hP
            have hD : va_D A (wM hM hR hT hZ cI m_allRows m_allColumns m_rows m_columns m_cells m_cursor m_locked m_insert m_alarms m_rejects m_latest m_thrown m_streamLong m_at z_m_place m_orders m_escaped m_broken m_signBefore m_free m_waitsLong m_cutOff z_m_screen m_stream m_waits) := hD
            refine va_put (D := (dC, dI)) (ci := 7) (v := .int r_6) (C := RX6) (T := TX6) (N := 25) hx hb hts uu_X6_goOnToField_X6 tyX6 tyX6_ok nmX6 hown hK hP hD hS 0 rfl rfl 16 (by decide) (hts (.fieldLink RX6 85 "BlockScreenModel" "place" "I") (List.mem_of_getElem? (i := 2) rfl)) (fun _ h9 => h9) rfl (tyX6_ok 16 (by decide)) rfl rfl (Nat.le_of_ble_eq_true rfl) dX6_goOnToField_82 (fun H locs hP hD hS => ?_)
            have hP : va_P (dC, dI) vwCl (wM hM hR hT hZ cI m_allRows m_allColumns m_rows m_columns m_cells m_cursor m_locked m_insert m_alarms m_rejects m_latest m_thrown m_streamLong m_at r_6 m_orders m_escaped m_broken m_signBefore m_free m_waitsLong m_cutOff z_m_screen m_stream m_waits) H := hP
            have hD : va_D A (wM hM hR hT hZ cI m_allRows m_allColumns m_rows m_columns m_cells m_cursor m_locked m_insert m_alarms m_rejects m_latest m_thrown m_streamLong m_at r_6 m_orders m_escaped m_broken m_signBefore m_free m_waitsLong m_cutOff z_m_screen m_stream m_waits) := hD
            have hf := Option.some.inj hf
            subst hf
            exact my_retv () hx hb hr hlocks hK hP hD hS dX6_goOnToField_85
  have L12 : ∀ (fu : Nat) (v1 : Int32) (z_m_place : Int32) (z_m_screen : Nat → Int32)  (H : Heap) (locs : List Loc), f_X6_goOnToField_L12 m_cells m_signBefore fu v1 z_m_place z_m_screen = some res → va_P (dC, dI) vwCl (wM hM hR hT hZ cI m_allRows m_allColumns m_rows m_columns m_cells m_cursor m_locked m_insert m_alarms m_rejects m_latest m_thrown m_streamLong m_at z_m_place m_orders m_escaped m_broken m_signBefore m_free m_waitsLong m_cutOff z_m_screen m_stream m_waits) H → va_D A (wM hM hR hT hZ cI m_allRows m_allColumns m_rows m_columns m_cells m_cursor m_locked m_insert m_alarms m_rejects m_latest m_thrown m_streamLong m_at z_m_place m_orders m_escaped m_broken m_signBefore m_free m_waitsLong m_cutOff z_m_screen m_stream m_waits) → va_S A s.heap H locs → ∀ (ls : Array Slot), lv_has ls 2 [(0, .ref hM), (1, .int v1)] → W p l e (headSpec wsX6_goOnToField ({ frames := 1, cells := 0, slots := 0, locals := 21 })).room s m ([.ref hM] : List Value).toArray below meth c H locs 0 0 (MQ below (my_Qv (S := Unit) (dC, dI) [(cI, .int)] (fun _ => wM hM hR hT hZ cI m_allRows m_allColumns m_rows m_columns m_cells m_cursor m_locked m_insert m_alarms m_rejects m_latest m_thrown m_streamLong m_at res.1 m_orders m_escaped m_broken m_signBefore m_free m_waitsLong m_cutOff res.2 m_stream m_waits) A) ([.ref hM] : List Value).toArray s 0 0 A) (F0 m 12 ls []) := by
    intro fu
    induction fu with
    | zero =>
      intro v1 z_m_place z_m_screen H locs hf
      rw [f_X6_goOnToField_L12.eq_1] at hf
      cases hf
    | succ fu ih =>
      intro v1 z_m_place z_m_screen H locs hf  hP hD hS ls hl
      rw [f_X6_goOnToField_L12.eq_2] at hf
      refine lv_iload_n hx hb dX6_goOnToField_12 rfl (lv_at hl 1 rfl) ?_
      refine lv_aload_n hx hb dX6_goOnToField_13 rfl (lv_at hl 0 rfl) ?_
      refine va_get (D := (dC, dI)) (ci := 7) (v := .int m_cells) (C := RX6) (T := TX6) (N := 25) hx hb hts uu_X6_goOnToField_X6 hown hK hP 0 rfl rfl 4 (by decide) (hts (.fieldLink RX6 46 "BlockScreenModel" "cells" "I") (List.mem_of_getElem? (i := 3) rfl)) (fun _ h9 => h9) rfl dX6_goOnToField_14 ?_
      refine lv_icmp_ge (tgt := 41) hx hb dX6_goOnToField_17 (by decide) (fun c_7 => ?_) (fun c_7 => ?_)
      · have hf := (if_pos c_7).symm.trans hf
        refine lv_aload_n hx hb dX6_goOnToField_41 rfl (lv_at hl 0 rfl) ?_
        refine va_get (D := (dC, dI)) (ci := 7) (v := .int z_m_place) (C := RX6) (T := TX6) (N := 25) hx hb hts uu_X6_goOnToField_X6 hown hK hP 0 rfl rfl 16 (by decide) (hts (.fieldLink RX6 85 "BlockScreenModel" "place" "I") (List.mem_of_getElem? (i := 2) rfl)) (fun _ h9 => h9) rfl dX6_goOnToField_42 ?_
        refine lv_istore_n (lv' := [(1, .int z_m_place), (0, .ref hM)]) hx hb dX6_goOnToField_45 rfl hl (by decide) rfl (fun ls hl => ?_)
        exact L46 FU z_m_place z_m_place z_m_screen _ _ hf  hP hD hS ls (lv_sub hl [1, 0] rfl)
      · have hf := (if_neg c_7).symm.trans hf
        refine lv_aload_n hx hb dX6_goOnToField_20 rfl (lv_at hl 0 rfl) ?_
        refine lv_iload_n hx hb dX6_goOnToField_21 rfl (lv_at hl 1 rfl) ?_
        obtain ⟨r_8, hq_8, hf⟩ := ob_inv hf
        refine my_cVi (As := [.int v1]) (rest := []) ⟨hx, hb, hml, hown, hts⟩ (c_X6_isAttribute l dC dI cI hM hR hT hZ m_allRows m_allColumns m_rows m_columns m_cells m_cursor m_locked m_insert m_alarms m_rejects m_latest m_thrown m_streamLong m_at z_m_place m_orders m_escaped m_broken m_signBefore m_free m_waitsLong m_cutOff z_m_screen m_stream m_waits _ v1 r_8 hq_8) (cwV 1 hts gX6_goOnToField_X6_isAttribute rfl rfl rfl (by decide +kernel) ⟨Nat.le_of_ble_eq_true rfl, Nat.le_of_ble_eq_true rfl⟩) hK hP hD hS hA 0 7 rfl rfl rfl hl.1 rfl (Nat.le_of_ble_eq_true rfl) dX6_goOnToField_22 ⟨Nat.zero_le _, Nat.zero_le _⟩ (fun _ H locs hP hD hS => ?_)
        have hP : va_P (dC, dI) vwCl (wM hM hR hT hZ cI m_allRows m_allColumns m_rows m_columns m_cells m_cursor m_locked m_insert m_alarms m_rejects m_latest m_thrown m_streamLong m_at z_m_place m_orders m_escaped m_broken m_signBefore m_free m_waitsLong m_cutOff z_m_screen m_stream m_waits) H := hP
        have hD : va_D A (wM hM hR hT hZ cI m_allRows m_allColumns m_rows m_columns m_cells m_cursor m_locked m_insert m_alarms m_rejects m_latest m_thrown m_streamLong m_at z_m_place m_orders m_escaped m_broken m_signBefore m_free m_waitsLong m_cutOff z_m_screen m_stream m_waits) := hD
        refine lv_if_ne (tgt := 41) hx hb dX6_goOnToField_25 (by decide) (fun c_9 => ?_) (fun c_9 => ?_)
        · have hf := (if_neg c_9).symm.trans hf
          refine lv_aload_n hx hb dX6_goOnToField_41 rfl (lv_at hl 0 rfl) ?_
          refine va_get (D := (dC, dI)) (ci := 7) (v := .int z_m_place) (C := RX6) (T := TX6) (N := 25) hx hb hts uu_X6_goOnToField_X6 hown hK hP 0 rfl rfl 16 (by decide) (hts (.fieldLink RX6 85 "BlockScreenModel" "place" "I") (List.mem_of_getElem? (i := 2) rfl)) (fun _ h9 => h9) rfl dX6_goOnToField_42 ?_
          refine lv_istore_n (lv' := [(1, .int z_m_place), (0, .ref hM)]) hx hb dX6_goOnToField_45 rfl hl (by decide) rfl (fun ls hl => ?_)
          exact L46 FU z_m_place z_m_place z_m_screen _ _ hf  hP hD hS ls (lv_sub hl [1, 0] rfl)
        · have hf := (if_pos c_9).symm.trans hf
          refine lv_aload_n hx hb dX6_goOnToField_28 rfl (lv_at hl 0 rfl) ?_
          refine va_get (D := (dC, dI)) (ci := 7) (v := .ref hR) (C := RX6) (T := TX6) (N := 25) hx hb hts uu_X6_goOnToField_X6 hown hK hP 0 rfl rfl 6 (by decide) (hts (.fieldLink RX6 7 "BlockScreenModel" "screen" "[I") (List.mem_of_getElem? (i := 4) rfl)) (fun _ h9 => h9) rfl dX6_goOnToField_29 ?_
          refine lv_iload_n hx hb dX6_goOnToField_32 rfl (lv_at hl 1 rfl) ?_
          refine lv_iconst (v := 0) hx hb dX6_goOnToField_33 (by decide) ?_
          rcases Classical.em (v1 < 0 ∨ 5676 ≤ v1.toNatClampNeg) with c_10 | c_10
          · exact nn_abs ((if_pos c_10).symm.trans hf)
          have hf := (if_neg c_10).symm.trans hf
          refine va_iast hx hb hK hP hD hS 1 0 rfl rfl c_10 dX6_goOnToField_34 (fun H locs hP hD hS => ?_)
          have hP : va_P (dC, dI) vwCl (wM hM hR hT hZ cI m_allRows m_allColumns m_rows m_columns m_cells m_cursor m_locked m_insert m_alarms m_rejects m_latest m_thrown m_streamLong m_at z_m_place m_orders m_escaped m_broken m_signBefore m_free m_waitsLong m_cutOff (upd z_m_screen v1.toNatClampNeg 0) m_stream m_waits) H := hP
          have hD : va_D A (wM hM hR hT hZ cI m_allRows m_allColumns m_rows m_columns m_cells m_cursor m_locked m_insert m_alarms m_rejects m_latest m_thrown m_streamLong m_at z_m_place m_orders m_escaped m_broken m_signBefore m_free m_waitsLong m_cutOff (upd z_m_screen v1.toNatClampNeg 0) m_stream m_waits) := hD
          refine lv_iinc (v := v1 + 1) (lv' := [(1, .int (v1 + 1)), (0, .ref hM)]) hx hb dX6_goOnToField_35 hl (k := 1) rfl rfl (by decide) rfl (fun ls hl => ?_)
          refine lv_goto (tgt := 12) hx hb dX6_goOnToField_38 (by decide) ?_
          exact ih (v1 + 1) z_m_place (upd z_m_screen v1.toNatClampNeg 0) _ _ hf  hP hD hS ls (lv_sub hl [1, 0] rfl)
  unfold f_X6_goOnToField at hf
  refine lv_aload_n hx hb dX6_goOnToField_0 rfl (lv_at hl 0 rfl) ?_
  refine va_get (D := (dC, dI)) (ci := 7) (v := .int (b2i m_signBefore)) (C := RX6) (T := TX6) (N := 25) hx hb hts uu_X6_goOnToField_X6 hown hK hP 0 rfl rfl 20 (by decide) (hts (.fieldLink RX6 94 "BlockScreenModel" "signBefore" "Z") (List.mem_of_getElem? (i := 1) rfl)) (fun _ h9 => h9) rfl dX6_goOnToField_1 ?_
  refine lv_if_eq (tgt := 41) hx hb dX6_goOnToField_4 (by decide) (fun c_11 => ?_) (fun c_11 => ?_)
  · have hf := (if_pos c_11).symm.trans hf
    refine lv_aload_n hx hb dX6_goOnToField_41 rfl (lv_at hl 0 rfl) ?_
    refine va_get (D := (dC, dI)) (ci := 7) (v := .int m_place) (C := RX6) (T := TX6) (N := 25) hx hb hts uu_X6_goOnToField_X6 hown hK hP 0 rfl rfl 16 (by decide) (hts (.fieldLink RX6 85 "BlockScreenModel" "place" "I") (List.mem_of_getElem? (i := 2) rfl)) (fun _ h9 => h9) rfl dX6_goOnToField_42 ?_
    refine lv_istore_n (lv' := [(1, .int m_place), (0, .ref hM)]) hx hb dX6_goOnToField_45 rfl hl (by decide) rfl (fun ls hl => ?_)
    exact L46 FU m_place m_place m_screen _ _ hf  hP hD hS ls (lv_sub hl [1, 0] rfl)
  · have hf := (if_neg c_11).symm.trans hf
    refine lv_aload_n hx hb dX6_goOnToField_7 rfl (lv_at hl 0 rfl) ?_
    refine va_get (D := (dC, dI)) (ci := 7) (v := .int m_place) (C := RX6) (T := TX6) (N := 25) hx hb hts uu_X6_goOnToField_X6 hown hK hP 0 rfl rfl 16 (by decide) (hts (.fieldLink RX6 85 "BlockScreenModel" "place" "I") (List.mem_of_getElem? (i := 2) rfl)) (fun _ h9 => h9) rfl dX6_goOnToField_8 ?_
    refine lv_istore_n (lv' := [(1, .int m_place), (0, .ref hM)]) hx hb dX6_goOnToField_11 rfl hl (by decide) rfl (fun ls hl => ?_)
    exact L12 FU m_place m_place m_screen _ _ hf  hP hD hS ls (lv_sub hl [1, 0] rfl)

theorem uu_X6_repeat_X6 : ∀ w ∈ u_ws RX6 TX6 25, w ∈ wsX6_repeat := fun _ h => List.mem_cons_of_mem _ (List.mem_append_right _ h)
def f_X6_repeat_L72 (m_cells : Int32) (m_streamLong : Int32) (m_stream : Nat → Int32) : Nat → Int32 → Int32 → Int32 → Int32 → Int32 → Int32 → Bool → (Nat → Int32) → Option (Int32 × Int32 × Bool × (Nat → Int32))
  | 0, _, _, _, _, _, _, _, _ => none
  | fu + 1, v1, v2, v3, v4, z_m_at, z_m_place, z_m_broken, z_m_screen =>
    if v3 ≤ v4 then
    some (z_m_at, v1, z_m_broken, z_m_screen)
    else
    Option.bind (f_X6_put m_cells z_m_place z_m_screen v2) (fun (m_place_2, m_screen_2) =>
    f_X6_repeat_L72 m_cells m_streamLong m_stream fu v1 v2 v3 (v4 + 1) z_m_at m_place_2 z_m_broken m_screen_2)
def f_X6_repeat (m_cells : Int32) (m_streamLong : Int32) (m_at : Int32) (m_place : Int32) (m_broken : Bool) (m_screen : Nat → Int32) (m_stream : Nat → Int32) : Option (Int32 × Int32 × Bool × (Nat → Int32)) :=
    Option.bind (f_X6_address m_cells m_streamLong m_at m_broken m_stream) (fun (r_3, m_at_3, m_broken_3) =>
    if (b2i m_broken_3) = 0 then
    thn (f_X6_lacks m_streamLong m_at_3 m_broken_3 1) (fun (r_5, m_broken_5) =>
    if (b2i r_5) = 0 then
    Option.bind (f_X6_take m_at_3 m_stream) (fun (r_7, m_at_7) =>
    if (b2i (f_X6_isSign  r_7)) = 0 then
    thn (f_X6_rejected m_broken_5) (fun m_broken_13 =>
    some (m_at_7, m_place, m_broken_13, m_screen))
    else
    Option.bind (f_X6_round m_cells (r_3 - m_place)) (fun r_10 =>
    if r_10 = 0 then
    f_X6_repeat_L72 m_cells m_streamLong m_stream FU r_3 r_7 m_cells 0 m_at_7 m_place m_broken_5 m_screen
    else
    Option.bind (f_X6_round m_cells (r_3 - m_place)) (fun r_12 =>
    f_X6_repeat_L72 m_cells m_streamLong m_stream FU r_3 r_7 r_12 0 m_at_7 m_place m_broken_5 m_screen)))
    else
    some (m_at_3, m_place, m_broken_5, m_screen))
    else
    some (m_at_3, m_place, m_broken_3, m_screen))
set_option maxHeartbeats 400000 in
set_option maxRecDepth 100000 in
theorem c_X6_repeat (l : Launch) (dC : Nat → ClassId) (dI : Nat → Nat → Nat) (cI : ClassId) (hM hR hT hZ : Nat) (m_allRows : Int32) (m_allColumns : Int32) (m_rows : Int32) (m_columns : Int32) (m_cells : Int32) (m_cursor : Int32) (m_locked : Bool) (m_insert : Bool) (m_alarms : Int32) (m_rejects : Int32) (m_latest : Int32) (m_thrown : Int32) (m_streamLong : Int32) (m_at : Int32) (m_place : Int32) (m_orders : Int32) (m_escaped : Bool) (m_broken : Bool) (m_signBefore : Bool) (m_free : Bool) (m_waitsLong : Int32) (m_cutOff : Bool) (m_screen : Nat → Int32) (m_stream : Nat → Int32) (m_waits : Nat → Int32) (sz : Nat)  (res : Int32 × Int32 × Bool × (Nat → Int32)) (hf : f_X6_repeat m_cells m_streamLong m_at m_place m_broken m_screen m_stream = some res) : Met l yX6_repeat wsX6_repeat ({ frames := 3, cells := 0, slots := 0, locals := 64 }) (va_Pc [.ref hM] (my_Pre (dC, dI) [(cI, .int)] (wM hM hR hT hZ cI m_allRows m_allColumns m_rows m_columns m_cells m_cursor m_locked m_insert m_alarms m_rejects m_latest m_thrown m_streamLong m_at m_place m_orders m_escaped m_broken m_signBefore m_free m_waitsLong m_cutOff m_screen m_stream m_waits) sz)) (my_Qv (S := Unit) (dC, dI) [(cI, .int)] (fun _ => wM hM hR hT hZ cI m_allRows m_allColumns m_rows m_columns m_cells m_cursor m_locked m_insert m_alarms m_rejects m_latest m_thrown m_streamLong res.1 res.2.1 m_orders m_escaped res.2.2.1 m_signBefore m_free m_waitsLong m_cutOff res.2.2.2 m_stream m_waits) (va_A (wM hM hR hT hZ cI m_allRows m_allColumns m_rows m_columns m_cells m_cursor m_locked m_insert m_alarms m_rejects m_latest m_thrown m_streamLong m_at m_place m_orders m_escaped m_broken m_signBefore m_free m_waitsLong m_cutOff m_screen m_stream m_waits) sz)) 0 0 (va_A (wM hM hR hT hZ cI m_allRows m_allColumns m_rows m_columns m_cells m_cursor m_locked m_insert m_alarms m_rejects m_latest m_thrown m_streamLong m_at m_place m_orders m_escaped m_broken m_signBefore m_free m_waitsLong m_cutOff m_screen m_stream m_waits) sz) := by
  refine my_enter (cc := cX6_repeat) (maxL := 5) (ret := none) (Qc := my_Qv (S := Unit) (dC, dI) [(cI, .int)] (fun _ => wM hM hR hT hZ cI m_allRows m_allColumns m_rows m_columns m_cells m_cursor m_locked m_insert m_alarms m_rejects m_latest m_thrown m_streamLong res.1 res.2.1 m_orders m_escaped res.2.2.1 m_signBefore m_free m_waitsLong m_cutOff res.2.2.2 m_stream m_waits)) (by decide) rfl (Nat.le_of_ble_eq_true rfl) ?_
  intro p e s m below meth c A ls hx hb hr hml hts hown hlocks hnm hP hK hD hA hS hl
  have hown : s.vm.findClass RX6 = some m.cls := hown
  have hl : lv_has ls 5 [(0, .ref hM)] := hl
  have L72 : ∀ (fu : Nat) (v1 : Int32) (v2 : Int32) (v3 : Int32) (v4 : Int32) (z_m_at : Int32) (z_m_place : Int32) (z_m_broken : Bool) (z_m_screen : Nat → Int32)  (H : Heap) (locs : List Loc), f_X6_repeat_L72 m_cells m_streamLong m_stream fu v1 v2 v3 v4 z_m_at z_m_place z_m_broken z_m_screen = some res → va_P (dC, dI) vwCl (wM hM hR hT hZ cI m_allRows m_allColumns m_rows m_columns m_cells m_cursor m_locked m_insert m_alarms m_rejects m_latest m_thrown m_streamLong z_m_at z_m_place m_orders m_escaped z_m_broken m_signBefore m_free m_waitsLong m_cutOff z_m_screen m_stream m_waits) H → va_D A (wM hM hR hT hZ cI m_allRows m_allColumns m_rows m_columns m_cells m_cursor m_locked m_insert m_alarms m_rejects m_latest m_thrown m_streamLong z_m_at z_m_place m_orders m_escaped z_m_broken m_signBefore m_free m_waitsLong m_cutOff z_m_screen m_stream m_waits) → va_S A s.heap H locs → ∀ (ls : Array Slot), lv_has ls 5 [(0, .ref hM), (1, .int v1), (2, .int v2), (3, .int v3), (4, .int v4)] → W p l e (headSpec wsX6_repeat ({ frames := 3, cells := 0, slots := 0, locals := 64 })).room s m ([.ref hM] : List Value).toArray below meth c H locs 0 0 (MQ below (my_Qv (S := Unit) (dC, dI) [(cI, .int)] (fun _ => wM hM hR hT hZ cI m_allRows m_allColumns m_rows m_columns m_cells m_cursor m_locked m_insert m_alarms m_rejects m_latest m_thrown m_streamLong res.1 res.2.1 m_orders m_escaped res.2.2.1 m_signBefore m_free m_waitsLong m_cutOff res.2.2.2 m_stream m_waits) A) ([.ref hM] : List Value).toArray s 0 0 A) (F0 m 72 ls []) := by
    intro fu
    induction fu with
    | zero =>
      intro v1 v2 v3 v4 z_m_at z_m_place z_m_broken z_m_screen H locs hf
      rw [f_X6_repeat_L72.eq_1] at hf
      cases hf
    | succ fu ih =>
      intro v1 v2 v3 v4 z_m_at z_m_place z_m_broken z_m_screen H locs hf  hP hD hS ls hl
      rw [f_X6_repeat_L72.eq_2] at hf
      refine lv_iload hx hb dX6_repeat_72 (lv_at hl 4 rfl) ?_
      refine lv_iload_n hx hb dX6_repeat_74 rfl (lv_at hl 3 rfl) ?_
      refine lv_icmp_ge (tgt := 89) hx hb dX6_repeat_75 (by decide) (fun c_1 => ?_) (fun c_1 => ?_)
      · have hf := (if_pos c_1).symm.trans hf
        refine lv_aload_n hx hb dX6_repeat_89 rfl (lv_at hl 0 rfl) ?_
        refine lv_iload_n hx hb dX6_repeat_90 rfl (lv_at hl 1 rfl) ?_
        refine va_put (D := (dC, dI)) (ci := 7) (v := .int v1) (C := RX6) (T := TX6) (N := 25) hx hb hts uu_X6_repeat_X6 tyX6 tyX6_ok nmX6 hown hK hP hD hS 0 rfl rfl 16 (by decide) (hts (.fieldLink RX6 85 "BlockScreenModel" "place" "I") (List.mem_of_getElem? (i := 2) rfl)) (fun _ h9 => h9) rfl (tyX6_ok 16 (by decide)) rfl rfl (Nat.le_of_ble_eq_true rfl) dX6_repeat_91 (fun H locs hP hD hS => ?_)
        have hP : va_P (dC, dI) vwCl (wM hM hR hT hZ cI m_allRows m_allColumns m_rows m_columns m_cells m_cursor m_locked m_insert m_alarms m_rejects m_latest m_thrown m_streamLong z_m_at v1 m_orders m_escaped z_m_broken m_signBefore m_free m_waitsLong m_cutOff z_m_screen m_stream m_waits) H := hP
        have hD : va_D A (wM hM hR hT hZ cI m_allRows m_allColumns m_rows m_columns m_cells m_cursor m_locked m_insert m_alarms m_rejects m_latest m_thrown m_streamLong z_m_at v1 m_orders m_escaped z_m_broken m_signBefore m_free m_waitsLong m_cutOff z_m_screen m_stream m_waits) := hD
        have hf := Option.some.inj hf
        subst hf
        exact my_retv () hx hb hr hlocks hK hP hD hS dX6_repeat_94
      · have hf := (if_neg c_1).symm.trans hf
        refine lv_aload_n hx hb dX6_repeat_78 rfl (lv_at hl 0 rfl) ?_
        refine lv_iload_n hx hb dX6_repeat_79 rfl (lv_at hl 2 rfl) ?_
        obtain ⟨⟨m_place_2, m_screen_2⟩, hq_2, hf⟩ := ob_inv hf
        refine my_cVv (As := [.int v2]) (rest := []) ⟨hx, hb, hml, hown, hts⟩ (c_X6_put l dC dI cI hM hR hT hZ m_allRows m_allColumns m_rows m_columns m_cells m_cursor m_locked m_insert m_alarms m_rejects m_latest m_thrown m_streamLong z_m_at z_m_place m_orders m_escaped z_m_broken m_signBefore m_free m_waitsLong m_cutOff z_m_screen m_stream m_waits _ v2 (m_place_2, m_screen_2) hq_2) (cwV 1 hts gX6_repeat_X6_put rfl rfl rfl (by decide +kernel) ⟨Nat.le_of_ble_eq_true rfl, Nat.le_of_ble_eq_true rfl⟩) hK hP hD hS hA 0 7 rfl rfl rfl hl.1 rfl (Nat.le_of_ble_eq_true rfl) dX6_repeat_80 ⟨Nat.zero_le _, Nat.zero_le _⟩ (fun _ H locs hP hD hS => ?_)
        have hP : va_P (dC, dI) vwCl (wM hM hR hT hZ cI m_allRows m_allColumns m_rows m_columns m_cells m_cursor m_locked m_insert m_alarms m_rejects m_latest m_thrown m_streamLong z_m_at m_place_2 m_orders m_escaped z_m_broken m_signBefore m_free m_waitsLong m_cutOff m_screen_2 m_stream m_waits) H := hP
        have hD : va_D A (wM hM hR hT hZ cI m_allRows m_allColumns m_rows m_columns m_cells m_cursor m_locked m_insert m_alarms m_rejects m_latest m_thrown m_streamLong z_m_at m_place_2 m_orders m_escaped z_m_broken m_signBefore m_free m_waitsLong m_cutOff m_screen_2 m_stream m_waits) := hD
        refine lv_iinc (v := v4 + 1) (lv' := [(4, .int (v4 + 1)), (0, .ref hM), (1, .int v1), (2, .int v2), (3, .int v3)]) hx hb dX6_repeat_83 hl (k := 4) rfl rfl (by decide) rfl (fun ls hl => ?_)
        refine lv_goto (tgt := 72) hx hb dX6_repeat_86 (by decide) ?_
        exact ih v1 v2 v3 (v4 + 1) z_m_at m_place_2 z_m_broken m_screen_2 _ _ hf  hP hD hS ls (lv_sub hl [1, 2, 3, 4, 0] rfl)
  unfold f_X6_repeat at hf
  refine lv_aload_n hx hb dX6_repeat_0 rfl (lv_at hl 0 rfl) ?_
  obtain ⟨⟨r_3, m_at_3, m_broken_3⟩, hq_3, hf⟩ := ob_inv hf
  refine my_cVi (As := []) (rest := []) ⟨hx, hb, hml, hown, hts⟩ (c_X6_address l dC dI cI hM hR hT hZ m_allRows m_allColumns m_rows m_columns m_cells m_cursor m_locked m_insert m_alarms m_rejects m_latest m_thrown m_streamLong m_at m_place m_orders m_escaped m_broken m_signBefore m_free m_waitsLong m_cutOff m_screen m_stream m_waits _  (r_3, m_at_3, m_broken_3) hq_3) (cwV 0 hts gX6_repeat_X6_address rfl rfl rfl (by decide +kernel) ⟨Nat.le_of_ble_eq_true rfl, Nat.le_of_ble_eq_true rfl⟩) hK hP hD hS hA 0 7 rfl rfl rfl hl.1 rfl (Nat.le_of_ble_eq_true rfl) dX6_repeat_1 ⟨Nat.zero_le _, Nat.zero_le _⟩ (fun _ H locs hP hD hS => ?_)
  have hP : va_P (dC, dI) vwCl (wM hM hR hT hZ cI m_allRows m_allColumns m_rows m_columns m_cells m_cursor m_locked m_insert m_alarms m_rejects m_latest m_thrown m_streamLong m_at_3 m_place m_orders m_escaped m_broken_3 m_signBefore m_free m_waitsLong m_cutOff m_screen m_stream m_waits) H := hP
  have hD : va_D A (wM hM hR hT hZ cI m_allRows m_allColumns m_rows m_columns m_cells m_cursor m_locked m_insert m_alarms m_rejects m_latest m_thrown m_streamLong m_at_3 m_place m_orders m_escaped m_broken_3 m_signBefore m_free m_waitsLong m_cutOff m_screen m_stream m_waits) := hD
  refine lv_istore_n (lv' := [(1, .int r_3), (0, .ref hM)]) hx hb dX6_repeat_4 rfl hl (by decide) rfl (fun ls hl => ?_)
  refine lv_aload_n hx hb dX6_repeat_5 rfl (lv_at hl 1 rfl) ?_
  refine va_get (D := (dC, dI)) (ci := 7) (v := .int (b2i m_broken_3)) (C := RX6) (T := TX6) (N := 25) hx hb hts uu_X6_repeat_X6 hown hK hP 0 rfl rfl 19 (by decide) (hts (.fieldLink RX6 73 "BlockScreenModel" "broken" "Z") (List.mem_of_getElem? (i := 1) rfl)) (fun _ h9 => h9) rfl dX6_repeat_6 ?_
  refine lv_if_ne (tgt := 20) hx hb dX6_repeat_9 (by decide) (fun c_4 => ?_) (fun c_4 => ?_)
  · have hf := (if_neg c_4).symm.trans hf
    have hf := Option.some.inj hf
    subst hf
    exact my_retv () hx hb hr hlocks hK hP hD hS dX6_repeat_20
  · have hf := (if_pos c_4).symm.trans hf
    refine lv_aload_n hx hb dX6_repeat_12 rfl (lv_at hl 1 rfl) ?_
    refine lv_iconst (v := 1) hx hb dX6_repeat_13 (by decide) ?_
    obtain ⟨⟨r_5, m_broken_5⟩, hq_5, hf⟩ := th_inv hf
    refine my_cVi (As := [.int 1]) (rest := []) ⟨hx, hb, hml, hown, hts⟩ (c_X6_lacks l dC dI cI hM hR hT hZ m_allRows m_allColumns m_rows m_columns m_cells m_cursor m_locked m_insert m_alarms m_rejects m_latest m_thrown m_streamLong m_at_3 m_place m_orders m_escaped m_broken_3 m_signBefore m_free m_waitsLong m_cutOff m_screen m_stream m_waits _ 1 (r_5, m_broken_5) hq_5) (cwV 1 hts gX6_repeat_X6_lacks rfl rfl rfl (by decide +kernel) ⟨Nat.le_of_ble_eq_true rfl, Nat.le_of_ble_eq_true rfl⟩) hK hP hD hS hA 0 7 rfl rfl rfl hl.1 rfl (Nat.le_of_ble_eq_true rfl) dX6_repeat_14 ⟨Nat.zero_le _, Nat.zero_le _⟩ (fun _ H locs hP hD hS => ?_)
    have hP : va_P (dC, dI) vwCl (wM hM hR hT hZ cI m_allRows m_allColumns m_rows m_columns m_cells m_cursor m_locked m_insert m_alarms m_rejects m_latest m_thrown m_streamLong m_at_3 m_place m_orders m_escaped m_broken_5 m_signBefore m_free m_waitsLong m_cutOff m_screen m_stream m_waits) H := hP
    have hD : va_D A (wM hM hR hT hZ cI m_allRows m_allColumns m_rows m_columns m_cells m_cursor m_locked m_insert m_alarms m_rejects m_latest m_thrown m_streamLong m_at_3 m_place m_orders m_escaped m_broken_5 m_signBefore m_free m_waitsLong m_cutOff m_screen m_stream m_waits) := hD
    refine lv_if_eq (tgt := 21) hx hb dX6_repeat_17 (by decide) (fun c_6 => ?_) (fun c_6 => ?_)
    · have hf := (if_pos c_6).symm.trans hf
      refine lv_aload_n hx hb dX6_repeat_21 rfl (lv_at hl 1 rfl) ?_
      obtain ⟨⟨r_7, m_at_7⟩, hq_7, hf⟩ := ob_inv hf
      refine my_cVi (As := []) (rest := []) ⟨hx, hb, hml, hown, hts⟩ (c_X6_take l dC dI cI hM hR hT hZ m_allRows m_allColumns m_rows m_columns m_cells m_cursor m_locked m_insert m_alarms m_rejects m_latest m_thrown m_streamLong m_at_3 m_place m_orders m_escaped m_broken_5 m_signBefore m_free m_waitsLong m_cutOff m_screen m_stream m_waits _  (r_7, m_at_7) hq_7) (cwV 0 hts gX6_repeat_X6_take rfl rfl rfl (by decide +kernel) ⟨Nat.le_of_ble_eq_true rfl, Nat.le_of_ble_eq_true rfl⟩) hK hP hD hS hA 0 7 rfl rfl rfl hl.1 rfl (Nat.le_of_ble_eq_true rfl) dX6_repeat_22 ⟨Nat.zero_le _, Nat.zero_le _⟩ (fun _ H locs hP hD hS => ?_)
      have hP : va_P (dC, dI) vwCl (wM hM hR hT hZ cI m_allRows m_allColumns m_rows m_columns m_cells m_cursor m_locked m_insert m_alarms m_rejects m_latest m_thrown m_streamLong m_at_7 m_place m_orders m_escaped m_broken_5 m_signBefore m_free m_waitsLong m_cutOff m_screen m_stream m_waits) H := hP
      have hD : va_D A (wM hM hR hT hZ cI m_allRows m_allColumns m_rows m_columns m_cells m_cursor m_locked m_insert m_alarms m_rejects m_latest m_thrown m_streamLong m_at_7 m_place m_orders m_escaped m_broken_5 m_signBefore m_free m_waitsLong m_cutOff m_screen m_stream m_waits) := hD
      refine lv_istore_n (lv' := [(2, .int r_7), (1, .int r_3), (0, .ref hM)]) hx hb dX6_repeat_25 rfl hl (by decide) rfl (fun ls hl => ?_)
      refine lv_iload_n hx hb dX6_repeat_26 rfl (lv_at hl 0 rfl) ?_
      refine my_cSi (As := [.int r_7]) (rest := []) ⟨hx, hb, hml, hown, hts⟩ (c_X6_isSign l dC dI cI hM hR hT hZ m_allRows m_allColumns m_rows m_columns m_cells m_cursor m_locked m_insert m_alarms m_rejects m_latest m_thrown m_streamLong m_at_7 m_place m_orders m_escaped m_broken_5 m_signBefore m_free m_waitsLong m_cutOff m_screen m_stream m_waits _ r_7 (f_X6_isSign  r_7) rfl) (va_cwS 1 hts gX6_repeat_X6_isSign rfl rfl rfl (by decide +kernel) ⟨Nat.le_of_ble_eq_true rfl, Nat.le_of_ble_eq_true rfl⟩) hK hP hD hS hA rfl hl.1 rfl (Nat.le_of_ble_eq_true rfl) dX6_repeat_27 ⟨Nat.zero_le _, Nat.zero_le _⟩ (fun _ H locs hP hD hS => ?_)
      have hP : va_P (dC, dI) vwCl (wM hM hR hT hZ cI m_allRows m_allColumns m_rows m_columns m_cells m_cursor m_locked m_insert m_alarms m_rejects m_latest m_thrown m_streamLong m_at_7 m_place m_orders m_escaped m_broken_5 m_signBefore m_free m_waitsLong m_cutOff m_screen m_stream m_waits) H := hP
      have hD : va_D A (wM hM hR hT hZ cI m_allRows m_allColumns m_rows m_columns m_cells m_cursor m_locked m_insert m_alarms m_rejects m_latest m_thrown m_streamLong m_at_7 m_place m_orders m_escaped m_broken_5 m_signBefore m_free m_waitsLong m_cutOff m_screen m_stream m_waits) := hD
      refine lv_if_ne (tgt := 38) hx hb dX6_repeat_30 (by decide) (fun c_9 => ?_) (fun c_9 => ?_)
      · have hf := (if_neg c_9).symm.trans hf
        refine lv_aload_n hx hb dX6_repeat_38 rfl (lv_at hl 2 rfl) ?_
        refine lv_iload_n hx hb dX6_repeat_39 rfl (lv_at hl 1 rfl) ?_
        refine lv_aload_n hx hb dX6_repeat_40 rfl (lv_at hl 2 rfl) ?_
        refine va_get (D := (dC, dI)) (ci := 7) (v := .int m_place) (C := RX6) (T := TX6) (N := 25) hx hb hts uu_X6_repeat_X6 hown hK hP 0 rfl rfl 16 (by decide) (hts (.fieldLink RX6 85 "BlockScreenModel" "place" "I") (List.mem_of_getElem? (i := 2) rfl)) (fun _ h9 => h9) rfl dX6_repeat_41 ?_
        refine lv_isub hx hb dX6_repeat_44 ?_
        obtain ⟨r_10, hq_10, hf⟩ := ob_inv hf
        refine my_cVi (As := [.int (r_3 - m_place)]) (rest := []) ⟨hx, hb, hml, hown, hts⟩ (c_X6_round l dC dI cI hM hR hT hZ m_allRows m_allColumns m_rows m_columns m_cells m_cursor m_locked m_insert m_alarms m_rejects m_latest m_thrown m_streamLong m_at_7 m_place m_orders m_escaped m_broken_5 m_signBefore m_free m_waitsLong m_cutOff m_screen m_stream m_waits _ (r_3 - m_place) r_10 hq_10) (cwV 1 hts gX6_repeat_X6_round rfl rfl rfl (by decide +kernel) ⟨Nat.le_of_ble_eq_true rfl, Nat.le_of_ble_eq_true rfl⟩) hK hP hD hS hA 0 7 rfl rfl rfl hl.1 rfl (Nat.le_of_ble_eq_true rfl) dX6_repeat_45 ⟨Nat.zero_le _, Nat.zero_le _⟩ (fun _ H locs hP hD hS => ?_)
        have hP : va_P (dC, dI) vwCl (wM hM hR hT hZ cI m_allRows m_allColumns m_rows m_columns m_cells m_cursor m_locked m_insert m_alarms m_rejects m_latest m_thrown m_streamLong m_at_7 m_place m_orders m_escaped m_broken_5 m_signBefore m_free m_waitsLong m_cutOff m_screen m_stream m_waits) H := hP
        have hD : va_D A (wM hM hR hT hZ cI m_allRows m_allColumns m_rows m_columns m_cells m_cursor m_locked m_insert m_alarms m_rejects m_latest m_thrown m_streamLong m_at_7 m_place m_orders m_escaped m_broken_5 m_signBefore m_free m_waitsLong m_cutOff m_screen m_stream m_waits) := hD
        refine lv_if_ne (tgt := 58) hx hb dX6_repeat_48 (by decide) (fun c_11 => ?_) (fun c_11 => ?_)
        · have hf := (if_neg c_11).symm.trans hf
          refine lv_aload_n hx hb dX6_repeat_58 rfl (lv_at hl 2 rfl) ?_
          refine lv_iload_n hx hb dX6_repeat_59 rfl (lv_at hl 1 rfl) ?_
          refine lv_aload_n hx hb dX6_repeat_60 rfl (lv_at hl 2 rfl) ?_
          refine va_get (D := (dC, dI)) (ci := 7) (v := .int m_place) (C := RX6) (T := TX6) (N := 25) hx hb hts uu_X6_repeat_X6 hown hK hP 0 rfl rfl 16 (by decide) (hts (.fieldLink RX6 85 "BlockScreenModel" "place" "I") (List.mem_of_getElem? (i := 2) rfl)) (fun _ h9 => h9) rfl dX6_repeat_61 ?_
          refine lv_isub hx hb dX6_repeat_64 ?_
          obtain ⟨r_12, hq_12, hf⟩ := ob_inv hf
          refine my_cVi (As := [.int (r_3 - m_place)]) (rest := []) ⟨hx, hb, hml, hown, hts⟩ (c_X6_round l dC dI cI hM hR hT hZ m_allRows m_allColumns m_rows m_columns m_cells m_cursor m_locked m_insert m_alarms m_rejects m_latest m_thrown m_streamLong m_at_7 m_place m_orders m_escaped m_broken_5 m_signBefore m_free m_waitsLong m_cutOff m_screen m_stream m_waits _ (r_3 - m_place) r_12 hq_12) (cwV 1 hts gX6_repeat_X6_round rfl rfl rfl (by decide +kernel) ⟨Nat.le_of_ble_eq_true rfl, Nat.le_of_ble_eq_true rfl⟩) hK hP hD hS hA 0 7 rfl rfl rfl hl.1 rfl (Nat.le_of_ble_eq_true rfl) dX6_repeat_65 ⟨Nat.zero_le _, Nat.zero_le _⟩ (fun _ H locs hP hD hS => ?_)
          have hP : va_P (dC, dI) vwCl (wM hM hR hT hZ cI m_allRows m_allColumns m_rows m_columns m_cells m_cursor m_locked m_insert m_alarms m_rejects m_latest m_thrown m_streamLong m_at_7 m_place m_orders m_escaped m_broken_5 m_signBefore m_free m_waitsLong m_cutOff m_screen m_stream m_waits) H := hP
          have hD : va_D A (wM hM hR hT hZ cI m_allRows m_allColumns m_rows m_columns m_cells m_cursor m_locked m_insert m_alarms m_rejects m_latest m_thrown m_streamLong m_at_7 m_place m_orders m_escaped m_broken_5 m_signBefore m_free m_waitsLong m_cutOff m_screen m_stream m_waits) := hD
          refine lv_istore_n (lv' := [(3, .int r_12), (2, .int r_7), (1, .int r_3), (0, .ref hM)]) hx hb dX6_repeat_68 rfl hl (by decide) rfl (fun ls hl => ?_)
          refine lv_iconst (v := 0) hx hb dX6_repeat_69 (by decide) ?_
          refine lv_istore (lv' := [(4, .int 0), (3, .int r_12), (2, .int r_7), (1, .int r_3), (0, .ref hM)]) hx hb dX6_repeat_70 hl (by decide) rfl (fun ls hl => ?_)
          exact L72 FU r_3 r_7 r_12 0 m_at_7 m_place m_broken_5 m_screen _ _ hf  hP hD hS ls (lv_sub hl [4, 3, 2, 1, 0] rfl)
        · have hf := (if_pos c_11).symm.trans hf
          refine lv_aload_n hx hb dX6_repeat_51 rfl (lv_at hl 2 rfl) ?_
          refine va_get (D := (dC, dI)) (ci := 7) (v := .int m_cells) (C := RX6) (T := TX6) (N := 25) hx hb hts uu_X6_repeat_X6 hown hK hP 0 rfl rfl 4 (by decide) (hts (.fieldLink RX6 46 "BlockScreenModel" "cells" "I") (List.mem_of_getElem? (i := 3) rfl)) (fun _ h9 => h9) rfl dX6_repeat_52 ?_
          refine lv_goto (tgt := 68) hx hb dX6_repeat_55 (by decide) ?_
          refine lv_istore_n (lv' := [(3, .int m_cells), (2, .int r_7), (1, .int r_3), (0, .ref hM)]) hx hb dX6_repeat_68 rfl hl (by decide) rfl (fun ls hl => ?_)
          refine lv_iconst (v := 0) hx hb dX6_repeat_69 (by decide) ?_
          refine lv_istore (lv' := [(4, .int 0), (3, .int m_cells), (2, .int r_7), (1, .int r_3), (0, .ref hM)]) hx hb dX6_repeat_70 hl (by decide) rfl (fun ls hl => ?_)
          exact L72 FU r_3 r_7 m_cells 0 m_at_7 m_place m_broken_5 m_screen _ _ hf  hP hD hS ls (lv_sub hl [4, 3, 2, 1, 0] rfl)
      · have hf := (if_pos c_9).symm.trans hf
        refine lv_aload_n hx hb dX6_repeat_33 rfl (lv_at hl 2 rfl) ?_
        obtain ⟨m_broken_13, hq_13, hf⟩ := th_inv hf
        refine my_cVv (As := []) (rest := []) ⟨hx, hb, hml, hown, hts⟩ (c_X6_rejected l dC dI cI hM hR hT hZ m_allRows m_allColumns m_rows m_columns m_cells m_cursor m_locked m_insert m_alarms m_rejects m_latest m_thrown m_streamLong m_at_7 m_place m_orders m_escaped m_broken_5 m_signBefore m_free m_waitsLong m_cutOff m_screen m_stream m_waits _  m_broken_13 hq_13) (cwV 0 hts gX6_repeat_X6_rejected rfl rfl rfl (by decide +kernel) ⟨Nat.le_of_ble_eq_true rfl, Nat.le_of_ble_eq_true rfl⟩) hK hP hD hS hA 0 7 rfl rfl rfl hl.1 rfl (Nat.le_of_ble_eq_true rfl) dX6_repeat_34 ⟨Nat.zero_le _, Nat.zero_le _⟩ (fun _ H locs hP hD hS => ?_)
        have hP : va_P (dC, dI) vwCl (wM hM hR hT hZ cI m_allRows m_allColumns m_rows m_columns m_cells m_cursor m_locked m_insert m_alarms m_rejects m_latest m_thrown m_streamLong m_at_7 m_place m_orders m_escaped m_broken_13 m_signBefore m_free m_waitsLong m_cutOff m_screen m_stream m_waits) H := hP
        have hD : va_D A (wM hM hR hT hZ cI m_allRows m_allColumns m_rows m_columns m_cells m_cursor m_locked m_insert m_alarms m_rejects m_latest m_thrown m_streamLong m_at_7 m_place m_orders m_escaped m_broken_13 m_signBefore m_free m_waitsLong m_cutOff m_screen m_stream m_waits) := hD
        have hf := Option.some.inj hf
        subst hf
        exact my_retv () hx hb hr hlocks hK hP hD hS dX6_repeat_37
    · have hf := (if_neg c_6).symm.trans hf
      have hf := Option.some.inj hf
      subst hf
      exact my_retv () hx hb hr hlocks hK hP hD hS dX6_repeat_20

theorem uu_X6_erase_X6 : ∀ w ∈ u_ws RX6 TX6 25, w ∈ wsX6_erase := fun _ h => List.mem_cons_of_mem _ (List.mem_append_right _ h)
def f_X6_erase_L46 (m_cells : Int32) (m_streamLong : Int32) (m_stream : Nat → Int32) : Nat → Int32 → Int32 → Int32 → Int32 → Int32 → Bool → (Nat → Int32) → Option (Int32 × Int32 × Bool × (Nat → Int32))
  | 0, _, _, _, _, _, _, _ => none
  | fu + 1, v1, v2, v3, z_m_at, z_m_place, z_m_broken, z_m_screen =>
    if v2 ≤ v3 then
    some (z_m_at, v1, z_m_broken, z_m_screen)
    else
    Option.bind (f_X6_round m_cells (z_m_place + v3)) (fun r_2 =>
    Option.bind (f_X6_mayBeTyped m_cells z_m_screen r_2) (fun r_3 =>
    if (b2i r_3) = 0 then
    f_X6_erase_L46 m_cells m_streamLong m_stream fu v1 v2 (v3 + 1) z_m_at z_m_place z_m_broken z_m_screen
    else
    if r_2 < 0 ∨ 5676 ≤ r_2.toNatClampNeg then none else
    f_X6_erase_L46 m_cells m_streamLong m_stream fu v1 v2 (v3 + 1) z_m_at z_m_place z_m_broken (upd z_m_screen r_2.toNatClampNeg 0)))
def f_X6_erase (m_cells : Int32) (m_streamLong : Int32) (m_at : Int32) (m_place : Int32) (m_broken : Bool) (m_screen : Nat → Int32) (m_stream : Nat → Int32) : Option (Int32 × Int32 × Bool × (Nat → Int32)) :=
    Option.bind (f_X6_address m_cells m_streamLong m_at m_broken m_stream) (fun (r_6, m_at_6, m_broken_6) =>
    if (b2i m_broken_6) = 0 then
    Option.bind (f_X6_round m_cells (r_6 - m_place)) (fun r_8 =>
    if r_8 = 0 then
    f_X6_erase_L46 m_cells m_streamLong m_stream FU r_6 m_cells 0 m_at_6 m_place m_broken_6 m_screen
    else
    Option.bind (f_X6_round m_cells (r_6 - m_place)) (fun r_10 =>
    f_X6_erase_L46 m_cells m_streamLong m_stream FU r_6 r_10 0 m_at_6 m_place m_broken_6 m_screen))
    else
    some (m_at_6, m_place, m_broken_6, m_screen))
set_option maxHeartbeats 400000 in
set_option maxRecDepth 100000 in
theorem c_X6_erase (l : Launch) (dC : Nat → ClassId) (dI : Nat → Nat → Nat) (cI : ClassId) (hM hR hT hZ : Nat) (m_allRows : Int32) (m_allColumns : Int32) (m_rows : Int32) (m_columns : Int32) (m_cells : Int32) (m_cursor : Int32) (m_locked : Bool) (m_insert : Bool) (m_alarms : Int32) (m_rejects : Int32) (m_latest : Int32) (m_thrown : Int32) (m_streamLong : Int32) (m_at : Int32) (m_place : Int32) (m_orders : Int32) (m_escaped : Bool) (m_broken : Bool) (m_signBefore : Bool) (m_free : Bool) (m_waitsLong : Int32) (m_cutOff : Bool) (m_screen : Nat → Int32) (m_stream : Nat → Int32) (m_waits : Nat → Int32) (sz : Nat)  (res : Int32 × Int32 × Bool × (Nat → Int32)) (hf : f_X6_erase m_cells m_streamLong m_at m_place m_broken m_screen m_stream = some res) : Met l yX6_erase wsX6_erase ({ frames := 5, cells := 0, slots := 0, locals := 107 }) (va_Pc [.ref hM] (my_Pre (dC, dI) [(cI, .int)] (wM hM hR hT hZ cI m_allRows m_allColumns m_rows m_columns m_cells m_cursor m_locked m_insert m_alarms m_rejects m_latest m_thrown m_streamLong m_at m_place m_orders m_escaped m_broken m_signBefore m_free m_waitsLong m_cutOff m_screen m_stream m_waits) sz)) (my_Qv (S := Unit) (dC, dI) [(cI, .int)] (fun _ => wM hM hR hT hZ cI m_allRows m_allColumns m_rows m_columns m_cells m_cursor m_locked m_insert m_alarms m_rejects m_latest m_thrown m_streamLong res.1 res.2.1 m_orders m_escaped res.2.2.1 m_signBefore m_free m_waitsLong m_cutOff res.2.2.2 m_stream m_waits) (va_A (wM hM hR hT hZ cI m_allRows m_allColumns m_rows m_columns m_cells m_cursor m_locked m_insert m_alarms m_rejects m_latest m_thrown m_streamLong m_at m_place m_orders m_escaped m_broken m_signBefore m_free m_waitsLong m_cutOff m_screen m_stream m_waits) sz)) 0 0 (va_A (wM hM hR hT hZ cI m_allRows m_allColumns m_rows m_columns m_cells m_cursor m_locked m_insert m_alarms m_rejects m_latest m_thrown m_streamLong m_at m_place m_orders m_escaped m_broken m_signBefore m_free m_waitsLong m_cutOff m_screen m_stream m_waits) sz) := by
  refine my_enter (cc := cX6_erase) (maxL := 5) (ret := none) (Qc := my_Qv (S := Unit) (dC, dI) [(cI, .int)] (fun _ => wM hM hR hT hZ cI m_allRows m_allColumns m_rows m_columns m_cells m_cursor m_locked m_insert m_alarms m_rejects m_latest m_thrown m_streamLong res.1 res.2.1 m_orders m_escaped res.2.2.1 m_signBefore m_free m_waitsLong m_cutOff res.2.2.2 m_stream m_waits)) (by decide) rfl (Nat.le_of_ble_eq_true rfl) ?_
  intro p e s m below meth c A ls hx hb hr hml hts hown hlocks hnm hP hK hD hA hS hl
  have hown : s.vm.findClass RX6 = some m.cls := hown
  have hl : lv_has ls 5 [(0, .ref hM)] := hl
  have L46 : ∀ (fu : Nat) (v1 : Int32) (v2 : Int32) (v3 : Int32) (z_m_at : Int32) (z_m_place : Int32) (z_m_broken : Bool) (z_m_screen : Nat → Int32)  (H : Heap) (locs : List Loc), f_X6_erase_L46 m_cells m_streamLong m_stream fu v1 v2 v3 z_m_at z_m_place z_m_broken z_m_screen = some res → va_P (dC, dI) vwCl (wM hM hR hT hZ cI m_allRows m_allColumns m_rows m_columns m_cells m_cursor m_locked m_insert m_alarms m_rejects m_latest m_thrown m_streamLong z_m_at z_m_place m_orders m_escaped z_m_broken m_signBefore m_free m_waitsLong m_cutOff z_m_screen m_stream m_waits) H → va_D A (wM hM hR hT hZ cI m_allRows m_allColumns m_rows m_columns m_cells m_cursor m_locked m_insert m_alarms m_rejects m_latest m_thrown m_streamLong z_m_at z_m_place m_orders m_escaped z_m_broken m_signBefore m_free m_waitsLong m_cutOff z_m_screen m_stream m_waits) → va_S A s.heap H locs → ∀ (ls : Array Slot), lv_has ls 5 [(0, .ref hM), (1, .int v1), (2, .int v2), (3, .int v3)] → W p l e (headSpec wsX6_erase ({ frames := 5, cells := 0, slots := 0, locals := 107 })).room s m ([.ref hM] : List Value).toArray below meth c H locs 0 0 (MQ below (my_Qv (S := Unit) (dC, dI) [(cI, .int)] (fun _ => wM hM hR hT hZ cI m_allRows m_allColumns m_rows m_columns m_cells m_cursor m_locked m_insert m_alarms m_rejects m_latest m_thrown m_streamLong res.1 res.2.1 m_orders m_escaped res.2.2.1 m_signBefore m_free m_waitsLong m_cutOff res.2.2.2 m_stream m_waits) A) ([.ref hM] : List Value).toArray s 0 0 A) (F0 m 46 ls []) := by
    intro fu
    induction fu with
    | zero =>
      intro v1 v2 v3 z_m_at z_m_place z_m_broken z_m_screen H locs hf
      rw [f_X6_erase_L46.eq_1] at hf
      cases hf
    | succ fu ih =>
      intro v1 v2 v3 z_m_at z_m_place z_m_broken z_m_screen H locs hf  hP hD hS ls hl
      rw [f_X6_erase_L46.eq_2] at hf
      refine lv_iload_n hx hb dX6_erase_46 rfl (lv_at hl 3 rfl) ?_
      refine lv_iload_n hx hb dX6_erase_47 rfl (lv_at hl 2 rfl) ?_
      refine lv_icmp_ge (tgt := 86) hx hb dX6_erase_48 (by decide) (fun c_1 => ?_) (fun c_1 => ?_)
      · have hf := (if_pos c_1).symm.trans hf
        refine lv_aload_n hx hb dX6_erase_86 rfl (lv_at hl 0 rfl) ?_
        refine lv_iload_n hx hb dX6_erase_87 rfl (lv_at hl 1 rfl) ?_
        refine va_put (D := (dC, dI)) (ci := 7) (v := .int v1) (C := RX6) (T := TX6) (N := 25) hx hb hts uu_X6_erase_X6 tyX6 tyX6_ok nmX6 hown hK hP hD hS 0 rfl rfl 16 (by decide) (hts (.fieldLink RX6 85 "BlockScreenModel" "place" "I") (List.mem_of_getElem? (i := 2) rfl)) (fun _ h9 => h9) rfl (tyX6_ok 16 (by decide)) rfl rfl (Nat.le_of_ble_eq_true rfl) dX6_erase_88 (fun H locs hP hD hS => ?_)
        have hP : va_P (dC, dI) vwCl (wM hM hR hT hZ cI m_allRows m_allColumns m_rows m_columns m_cells m_cursor m_locked m_insert m_alarms m_rejects m_latest m_thrown m_streamLong z_m_at v1 m_orders m_escaped z_m_broken m_signBefore m_free m_waitsLong m_cutOff z_m_screen m_stream m_waits) H := hP
        have hD : va_D A (wM hM hR hT hZ cI m_allRows m_allColumns m_rows m_columns m_cells m_cursor m_locked m_insert m_alarms m_rejects m_latest m_thrown m_streamLong z_m_at v1 m_orders m_escaped z_m_broken m_signBefore m_free m_waitsLong m_cutOff z_m_screen m_stream m_waits) := hD
        have hf := Option.some.inj hf
        subst hf
        exact my_retv () hx hb hr hlocks hK hP hD hS dX6_erase_91
      · have hf := (if_neg c_1).symm.trans hf
        refine lv_aload_n hx hb dX6_erase_51 rfl (lv_at hl 0 rfl) ?_
        refine lv_aload_n hx hb dX6_erase_52 rfl (lv_at hl 0 rfl) ?_
        refine va_get (D := (dC, dI)) (ci := 7) (v := .int z_m_place) (C := RX6) (T := TX6) (N := 25) hx hb hts uu_X6_erase_X6 hown hK hP 0 rfl rfl 16 (by decide) (hts (.fieldLink RX6 85 "BlockScreenModel" "place" "I") (List.mem_of_getElem? (i := 2) rfl)) (fun _ h9 => h9) rfl dX6_erase_53 ?_
        refine lv_iload_n hx hb dX6_erase_56 rfl (lv_at hl 3 rfl) ?_
        refine lv_iadd hx hb dX6_erase_57 ?_
        obtain ⟨r_2, hq_2, hf⟩ := ob_inv hf
        refine my_cVi (As := [.int (z_m_place + v3)]) (rest := []) ⟨hx, hb, hml, hown, hts⟩ (c_X6_round l dC dI cI hM hR hT hZ m_allRows m_allColumns m_rows m_columns m_cells m_cursor m_locked m_insert m_alarms m_rejects m_latest m_thrown m_streamLong z_m_at z_m_place m_orders m_escaped z_m_broken m_signBefore m_free m_waitsLong m_cutOff z_m_screen m_stream m_waits _ (z_m_place + v3) r_2 hq_2) (cwV 1 hts gX6_erase_X6_round rfl rfl rfl (by decide +kernel) ⟨Nat.le_of_ble_eq_true rfl, Nat.le_of_ble_eq_true rfl⟩) hK hP hD hS hA 0 7 rfl rfl rfl hl.1 rfl (Nat.le_of_ble_eq_true rfl) dX6_erase_58 ⟨Nat.zero_le _, Nat.zero_le _⟩ (fun _ H locs hP hD hS => ?_)
        have hP : va_P (dC, dI) vwCl (wM hM hR hT hZ cI m_allRows m_allColumns m_rows m_columns m_cells m_cursor m_locked m_insert m_alarms m_rejects m_latest m_thrown m_streamLong z_m_at z_m_place m_orders m_escaped z_m_broken m_signBefore m_free m_waitsLong m_cutOff z_m_screen m_stream m_waits) H := hP
        have hD : va_D A (wM hM hR hT hZ cI m_allRows m_allColumns m_rows m_columns m_cells m_cursor m_locked m_insert m_alarms m_rejects m_latest m_thrown m_streamLong z_m_at z_m_place m_orders m_escaped z_m_broken m_signBefore m_free m_waitsLong m_cutOff z_m_screen m_stream m_waits) := hD
        refine lv_istore (lv' := [(4, .int r_2), (0, .ref hM), (1, .int v1), (2, .int v2), (3, .int v3)]) hx hb dX6_erase_61 hl (by decide) rfl (fun ls hl => ?_)
        refine lv_aload_n hx hb dX6_erase_63 rfl (lv_at hl 1 rfl) ?_
        refine lv_iload hx hb dX6_erase_64 (lv_at hl 0 rfl) ?_
        obtain ⟨r_3, hq_3, hf⟩ := ob_inv hf
        refine my_cVi (As := [.int r_2]) (rest := []) ⟨hx, hb, hml, hown, hts⟩ (c_X6_mayBeTyped l dC dI cI hM hR hT hZ m_allRows m_allColumns m_rows m_columns m_cells m_cursor m_locked m_insert m_alarms m_rejects m_latest m_thrown m_streamLong z_m_at z_m_place m_orders m_escaped z_m_broken m_signBefore m_free m_waitsLong m_cutOff z_m_screen m_stream m_waits _ r_2 r_3 hq_3) (cwV 1 hts gX6_erase_X6_mayBeTyped rfl rfl rfl (by decide +kernel) ⟨Nat.le_of_ble_eq_true rfl, Nat.le_of_ble_eq_true rfl⟩) hK hP hD hS hA 0 7 rfl rfl rfl hl.1 rfl (Nat.le_of_ble_eq_true rfl) dX6_erase_66 ⟨Nat.zero_le _, Nat.zero_le _⟩ (fun _ H locs hP hD hS => ?_)
        have hP : va_P (dC, dI) vwCl (wM hM hR hT hZ cI m_allRows m_allColumns m_rows m_columns m_cells m_cursor m_locked m_insert m_alarms m_rejects m_latest m_thrown m_streamLong z_m_at z_m_place m_orders m_escaped z_m_broken m_signBefore m_free m_waitsLong m_cutOff z_m_screen m_stream m_waits) H := hP
        have hD : va_D A (wM hM hR hT hZ cI m_allRows m_allColumns m_rows m_columns m_cells m_cursor m_locked m_insert m_alarms m_rejects m_latest m_thrown m_streamLong z_m_at z_m_place m_orders m_escaped z_m_broken m_signBefore m_free m_waitsLong m_cutOff z_m_screen m_stream m_waits) := hD
        refine lv_if_eq (tgt := 80) hx hb dX6_erase_69 (by decide) (fun c_4 => ?_) (fun c_4 => ?_)
        · have hf := (if_pos c_4).symm.trans hf
          refine lv_iinc (v := v3 + 1) (lv' := [(3, .int (v3 + 1)), (4, .int r_2), (0, .ref hM), (1, .int v1), (2, .int v2)]) hx hb dX6_erase_80 hl (k := 4) rfl rfl (by decide) rfl (fun ls hl => ?_)
          refine lv_goto (tgt := 46) hx hb dX6_erase_83 (by decide) ?_
          exact ih v1 v2 (v3 + 1) z_m_at z_m_place z_m_broken z_m_screen _ _ hf  hP hD hS ls (lv_sub hl [2, 3, 4, 0] rfl)
        · have hf := (if_neg c_4).symm.trans hf
          refine lv_aload_n hx hb dX6_erase_72 rfl (lv_at hl 1 rfl) ?_
          refine va_get (D := (dC, dI)) (ci := 7) (v := .ref hR) (C := RX6) (T := TX6) (N := 25) hx hb hts uu_X6_erase_X6 hown hK hP 0 rfl rfl 6 (by decide) (hts (.fieldLink RX6 7 "BlockScreenModel" "screen" "[I") (List.mem_of_getElem? (i := 4) rfl)) (fun _ h9 => h9) rfl dX6_erase_73 ?_
          refine lv_iload hx hb dX6_erase_76 (lv_at hl 0 rfl) ?_
          refine lv_iconst (v := 0) hx hb dX6_erase_78 (by decide) ?_
          rcases Classical.em (r_2 < 0 ∨ 5676 ≤ r_2.toNatClampNeg) with c_5 | c_5
          · exact nn_abs ((if_pos c_5).symm.trans hf)
          have hf := (if_neg c_5).symm.trans hf
          refine va_iast hx hb hK hP hD hS 1 0 rfl rfl c_5 dX6_erase_79 (fun H locs hP hD hS => ?_)
          have hP : va_P (dC, dI) vwCl (wM hM hR hT hZ cI m_allRows m_allColumns m_rows m_columns m_cells m_cursor m_locked m_insert m_alarms m_rejects m_latest m_thrown m_streamLong z_m_at z_m_place m_orders m_escaped z_m_broken m_signBefore m_free m_waitsLong m_cutOff (upd z_m_screen r_2.toNatClampNeg 0) m_stream m_waits) H := hP
          have hD : va_D A (wM hM hR hT hZ cI m_allRows m_allColumns m_rows m_columns m_cells m_cursor m_locked m_insert m_alarms m_rejects m_latest m_thrown m_streamLong z_m_at z_m_place m_orders m_escaped z_m_broken m_signBefore m_free m_waitsLong m_cutOff (upd z_m_screen r_2.toNatClampNeg 0) m_stream m_waits) := hD
          refine lv_iinc (v := v3 + 1) (lv' := [(3, .int (v3 + 1)), (4, .int r_2), (0, .ref hM), (1, .int v1), (2, .int v2)]) hx hb dX6_erase_80 hl (k := 4) rfl rfl (by decide) rfl (fun ls hl => ?_)
          refine lv_goto (tgt := 46) hx hb dX6_erase_83 (by decide) ?_
          exact ih v1 v2 (v3 + 1) z_m_at z_m_place z_m_broken (upd z_m_screen r_2.toNatClampNeg 0) _ _ hf  hP hD hS ls (lv_sub hl [2, 3, 4, 0] rfl)
  unfold f_X6_erase at hf
  refine lv_aload_n hx hb dX6_erase_0 rfl (lv_at hl 0 rfl) ?_
  obtain ⟨⟨r_6, m_at_6, m_broken_6⟩, hq_6, hf⟩ := ob_inv hf
  refine my_cVi (As := []) (rest := []) ⟨hx, hb, hml, hown, hts⟩ (c_X6_address l dC dI cI hM hR hT hZ m_allRows m_allColumns m_rows m_columns m_cells m_cursor m_locked m_insert m_alarms m_rejects m_latest m_thrown m_streamLong m_at m_place m_orders m_escaped m_broken m_signBefore m_free m_waitsLong m_cutOff m_screen m_stream m_waits _  (r_6, m_at_6, m_broken_6) hq_6) (cwV 0 hts gX6_erase_X6_address rfl rfl rfl (by decide +kernel) ⟨Nat.le_of_ble_eq_true rfl, Nat.le_of_ble_eq_true rfl⟩) hK hP hD hS hA 0 7 rfl rfl rfl hl.1 rfl (Nat.le_of_ble_eq_true rfl) dX6_erase_1 ⟨Nat.zero_le _, Nat.zero_le _⟩ (fun _ H locs hP hD hS => ?_)
  have hP : va_P (dC, dI) vwCl (wM hM hR hT hZ cI m_allRows m_allColumns m_rows m_columns m_cells m_cursor m_locked m_insert m_alarms m_rejects m_latest m_thrown m_streamLong m_at_6 m_place m_orders m_escaped m_broken_6 m_signBefore m_free m_waitsLong m_cutOff m_screen m_stream m_waits) H := hP
  have hD : va_D A (wM hM hR hT hZ cI m_allRows m_allColumns m_rows m_columns m_cells m_cursor m_locked m_insert m_alarms m_rejects m_latest m_thrown m_streamLong m_at_6 m_place m_orders m_escaped m_broken_6 m_signBefore m_free m_waitsLong m_cutOff m_screen m_stream m_waits) := hD
  refine lv_istore_n (lv' := [(1, .int r_6), (0, .ref hM)]) hx hb dX6_erase_4 rfl hl (by decide) rfl (fun ls hl => ?_)
  refine lv_aload_n hx hb dX6_erase_5 rfl (lv_at hl 1 rfl) ?_
  refine va_get (D := (dC, dI)) (ci := 7) (v := .int (b2i m_broken_6)) (C := RX6) (T := TX6) (N := 25) hx hb hts uu_X6_erase_X6 hown hK hP 0 rfl rfl 19 (by decide) (hts (.fieldLink RX6 73 "BlockScreenModel" "broken" "Z") (List.mem_of_getElem? (i := 1) rfl)) (fun _ h9 => h9) rfl dX6_erase_6 ?_
  refine lv_if_eq (tgt := 13) hx hb dX6_erase_9 (by decide) (fun c_7 => ?_) (fun c_7 => ?_)
  · have hf := (if_pos c_7).symm.trans hf
    refine lv_aload_n hx hb dX6_erase_13 rfl (lv_at hl 1 rfl) ?_
    refine lv_iload_n hx hb dX6_erase_14 rfl (lv_at hl 0 rfl) ?_
    refine lv_aload_n hx hb dX6_erase_15 rfl (lv_at hl 1 rfl) ?_
    refine va_get (D := (dC, dI)) (ci := 7) (v := .int m_place) (C := RX6) (T := TX6) (N := 25) hx hb hts uu_X6_erase_X6 hown hK hP 0 rfl rfl 16 (by decide) (hts (.fieldLink RX6 85 "BlockScreenModel" "place" "I") (List.mem_of_getElem? (i := 2) rfl)) (fun _ h9 => h9) rfl dX6_erase_16 ?_
    refine lv_isub hx hb dX6_erase_19 ?_
    obtain ⟨r_8, hq_8, hf⟩ := ob_inv hf
    refine my_cVi (As := [.int (r_6 - m_place)]) (rest := []) ⟨hx, hb, hml, hown, hts⟩ (c_X6_round l dC dI cI hM hR hT hZ m_allRows m_allColumns m_rows m_columns m_cells m_cursor m_locked m_insert m_alarms m_rejects m_latest m_thrown m_streamLong m_at_6 m_place m_orders m_escaped m_broken_6 m_signBefore m_free m_waitsLong m_cutOff m_screen m_stream m_waits _ (r_6 - m_place) r_8 hq_8) (cwV 1 hts gX6_erase_X6_round rfl rfl rfl (by decide +kernel) ⟨Nat.le_of_ble_eq_true rfl, Nat.le_of_ble_eq_true rfl⟩) hK hP hD hS hA 0 7 rfl rfl rfl hl.1 rfl (Nat.le_of_ble_eq_true rfl) dX6_erase_20 ⟨Nat.zero_le _, Nat.zero_le _⟩ (fun _ H locs hP hD hS => ?_)
    have hP : va_P (dC, dI) vwCl (wM hM hR hT hZ cI m_allRows m_allColumns m_rows m_columns m_cells m_cursor m_locked m_insert m_alarms m_rejects m_latest m_thrown m_streamLong m_at_6 m_place m_orders m_escaped m_broken_6 m_signBefore m_free m_waitsLong m_cutOff m_screen m_stream m_waits) H := hP
    have hD : va_D A (wM hM hR hT hZ cI m_allRows m_allColumns m_rows m_columns m_cells m_cursor m_locked m_insert m_alarms m_rejects m_latest m_thrown m_streamLong m_at_6 m_place m_orders m_escaped m_broken_6 m_signBefore m_free m_waitsLong m_cutOff m_screen m_stream m_waits) := hD
    refine lv_if_ne (tgt := 33) hx hb dX6_erase_23 (by decide) (fun c_9 => ?_) (fun c_9 => ?_)
    · have hf := (if_neg c_9).symm.trans hf
      refine lv_aload_n hx hb dX6_erase_33 rfl (lv_at hl 1 rfl) ?_
      refine lv_iload_n hx hb dX6_erase_34 rfl (lv_at hl 0 rfl) ?_
      refine lv_aload_n hx hb dX6_erase_35 rfl (lv_at hl 1 rfl) ?_
      refine va_get (D := (dC, dI)) (ci := 7) (v := .int m_place) (C := RX6) (T := TX6) (N := 25) hx hb hts uu_X6_erase_X6 hown hK hP 0 rfl rfl 16 (by decide) (hts (.fieldLink RX6 85 "BlockScreenModel" "place" "I") (List.mem_of_getElem? (i := 2) rfl)) (fun _ h9 => h9) rfl dX6_erase_36 ?_
      refine lv_isub hx hb dX6_erase_39 ?_
      obtain ⟨r_10, hq_10, hf⟩ := ob_inv hf
      refine my_cVi (As := [.int (r_6 - m_place)]) (rest := []) ⟨hx, hb, hml, hown, hts⟩ (c_X6_round l dC dI cI hM hR hT hZ m_allRows m_allColumns m_rows m_columns m_cells m_cursor m_locked m_insert m_alarms m_rejects m_latest m_thrown m_streamLong m_at_6 m_place m_orders m_escaped m_broken_6 m_signBefore m_free m_waitsLong m_cutOff m_screen m_stream m_waits _ (r_6 - m_place) r_10 hq_10) (cwV 1 hts gX6_erase_X6_round rfl rfl rfl (by decide +kernel) ⟨Nat.le_of_ble_eq_true rfl, Nat.le_of_ble_eq_true rfl⟩) hK hP hD hS hA 0 7 rfl rfl rfl hl.1 rfl (Nat.le_of_ble_eq_true rfl) dX6_erase_40 ⟨Nat.zero_le _, Nat.zero_le _⟩ (fun _ H locs hP hD hS => ?_)
      have hP : va_P (dC, dI) vwCl (wM hM hR hT hZ cI m_allRows m_allColumns m_rows m_columns m_cells m_cursor m_locked m_insert m_alarms m_rejects m_latest m_thrown m_streamLong m_at_6 m_place m_orders m_escaped m_broken_6 m_signBefore m_free m_waitsLong m_cutOff m_screen m_stream m_waits) H := hP
      have hD : va_D A (wM hM hR hT hZ cI m_allRows m_allColumns m_rows m_columns m_cells m_cursor m_locked m_insert m_alarms m_rejects m_latest m_thrown m_streamLong m_at_6 m_place m_orders m_escaped m_broken_6 m_signBefore m_free m_waitsLong m_cutOff m_screen m_stream m_waits) := hD
      refine lv_istore_n (lv' := [(2, .int r_10), (1, .int r_6), (0, .ref hM)]) hx hb dX6_erase_43 rfl hl (by decide) rfl (fun ls hl => ?_)
      refine lv_iconst (v := 0) hx hb dX6_erase_44 (by decide) ?_
      refine lv_istore_n (lv' := [(3, .int 0), (2, .int r_10), (1, .int r_6), (0, .ref hM)]) hx hb dX6_erase_45 rfl hl (by decide) rfl (fun ls hl => ?_)
      exact L46 FU r_6 r_10 0 m_at_6 m_place m_broken_6 m_screen _ _ hf  hP hD hS ls (lv_sub hl [3, 2, 1, 0] rfl)
    · have hf := (if_pos c_9).symm.trans hf
      refine lv_aload_n hx hb dX6_erase_26 rfl (lv_at hl 1 rfl) ?_
      refine va_get (D := (dC, dI)) (ci := 7) (v := .int m_cells) (C := RX6) (T := TX6) (N := 25) hx hb hts uu_X6_erase_X6 hown hK hP 0 rfl rfl 4 (by decide) (hts (.fieldLink RX6 46 "BlockScreenModel" "cells" "I") (List.mem_of_getElem? (i := 3) rfl)) (fun _ h9 => h9) rfl dX6_erase_27 ?_
      refine lv_goto (tgt := 43) hx hb dX6_erase_30 (by decide) ?_
      refine lv_istore_n (lv' := [(2, .int m_cells), (1, .int r_6), (0, .ref hM)]) hx hb dX6_erase_43 rfl hl (by decide) rfl (fun ls hl => ?_)
      refine lv_iconst (v := 0) hx hb dX6_erase_44 (by decide) ?_
      refine lv_istore_n (lv' := [(3, .int 0), (2, .int m_cells), (1, .int r_6), (0, .ref hM)]) hx hb dX6_erase_45 rfl hl (by decide) rfl (fun ls hl => ?_)
      exact L46 FU r_6 m_cells 0 m_at_6 m_place m_broken_6 m_screen _ _ hf  hP hD hS ls (lv_sub hl [3, 2, 1, 0] rfl)
  · have hf := (if_neg c_7).symm.trans hf
    have hf := Option.some.inj hf
    subst hf
    exact my_retv () hx hb hr hlocks hK hP hD hS dX6_erase_12

theorem uu_X6_change_X6 : ∀ w ∈ u_ws RX6 TX6 25, w ∈ wsX6_change := fun _ h => List.mem_cons_of_mem _ (List.mem_append_right _ h)
def f_X6_change (m_cells : Int32) (m_streamLong : Int32) (m_at : Int32) (m_place : Int32) (m_broken : Bool) (m_screen : Nat → Int32) (m_stream : Nat → Int32) : Option (Int32 × Int32 × Bool × (Nat → Int32)) :=
    Option.bind (f_X6_isAttribute m_screen m_place) (fun r_1 =>
    if (b2i r_1) = 0 then
    thn (f_X6_rejected m_broken) (fun m_broken_9 =>
    some (m_at, m_place, m_broken_9, m_screen))
    else
    Option.bind (f_X6_pairs m_streamLong m_at m_broken m_stream) (fun (r_3, m_at_3, m_broken_3) =>
    if (b2i m_broken_3) = 0 then
    if r_3 = (-1) then
    Option.bind (f_X6_round m_cells (m_place + 1)) (fun r_6 =>
    some (m_at_3, r_6, m_broken_3, m_screen))
    else
    if m_place < 0 ∨ 5676 ≤ m_place.toNatClampNeg then none else
    Option.bind (f_X6_round m_cells (m_place + 1)) (fun r_8 =>
    some (m_at_3, r_8, m_broken_3, upd m_screen m_place.toNatClampNeg (256 + r_3)))
    else
    some (m_at_3, m_place, m_broken_3, m_screen)))
set_option maxHeartbeats 400000 in
set_option maxRecDepth 100000 in
theorem c_X6_change (l : Launch) (dC : Nat → ClassId) (dI : Nat → Nat → Nat) (cI : ClassId) (hM hR hT hZ : Nat) (m_allRows : Int32) (m_allColumns : Int32) (m_rows : Int32) (m_columns : Int32) (m_cells : Int32) (m_cursor : Int32) (m_locked : Bool) (m_insert : Bool) (m_alarms : Int32) (m_rejects : Int32) (m_latest : Int32) (m_thrown : Int32) (m_streamLong : Int32) (m_at : Int32) (m_place : Int32) (m_orders : Int32) (m_escaped : Bool) (m_broken : Bool) (m_signBefore : Bool) (m_free : Bool) (m_waitsLong : Int32) (m_cutOff : Bool) (m_screen : Nat → Int32) (m_stream : Nat → Int32) (m_waits : Nat → Int32) (sz : Nat)  (res : Int32 × Int32 × Bool × (Nat → Int32)) (hf : f_X6_change m_cells m_streamLong m_at m_place m_broken m_screen m_stream = some res) : Met l yX6_change wsX6_change ({ frames := 3, cells := 0, slots := 0, locals := 66 }) (va_Pc [.ref hM] (my_Pre (dC, dI) [(cI, .int)] (wM hM hR hT hZ cI m_allRows m_allColumns m_rows m_columns m_cells m_cursor m_locked m_insert m_alarms m_rejects m_latest m_thrown m_streamLong m_at m_place m_orders m_escaped m_broken m_signBefore m_free m_waitsLong m_cutOff m_screen m_stream m_waits) sz)) (my_Qv (S := Unit) (dC, dI) [(cI, .int)] (fun _ => wM hM hR hT hZ cI m_allRows m_allColumns m_rows m_columns m_cells m_cursor m_locked m_insert m_alarms m_rejects m_latest m_thrown m_streamLong res.1 res.2.1 m_orders m_escaped res.2.2.1 m_signBefore m_free m_waitsLong m_cutOff res.2.2.2 m_stream m_waits) (va_A (wM hM hR hT hZ cI m_allRows m_allColumns m_rows m_columns m_cells m_cursor m_locked m_insert m_alarms m_rejects m_latest m_thrown m_streamLong m_at m_place m_orders m_escaped m_broken m_signBefore m_free m_waitsLong m_cutOff m_screen m_stream m_waits) sz)) 0 0 (va_A (wM hM hR hT hZ cI m_allRows m_allColumns m_rows m_columns m_cells m_cursor m_locked m_insert m_alarms m_rejects m_latest m_thrown m_streamLong m_at m_place m_orders m_escaped m_broken m_signBefore m_free m_waitsLong m_cutOff m_screen m_stream m_waits) sz) := by
  refine my_enter (cc := cX6_change) (maxL := 2) (ret := none) (Qc := my_Qv (S := Unit) (dC, dI) [(cI, .int)] (fun _ => wM hM hR hT hZ cI m_allRows m_allColumns m_rows m_columns m_cells m_cursor m_locked m_insert m_alarms m_rejects m_latest m_thrown m_streamLong res.1 res.2.1 m_orders m_escaped res.2.2.1 m_signBefore m_free m_waitsLong m_cutOff res.2.2.2 m_stream m_waits)) (by decide) rfl (Nat.le_of_ble_eq_true rfl) ?_
  intro p e s m below meth c A ls hx hb hr hml hts hown hlocks hnm hP hK hD hA hS hl
  have hown : s.vm.findClass RX6 = some m.cls := hown
  have hl : lv_has ls 2 [(0, .ref hM)] := hl
  unfold f_X6_change at hf
  refine lv_aload_n hx hb dX6_change_0 rfl (lv_at hl 0 rfl) ?_
  refine lv_aload_n hx hb dX6_change_1 rfl (lv_at hl 0 rfl) ?_
  refine va_get (D := (dC, dI)) (ci := 7) (v := .int m_place) (C := RX6) (T := TX6) (N := 25) hx hb hts uu_X6_change_X6 hown hK hP 0 rfl rfl 16 (by decide) (hts (.fieldLink RX6 85 "BlockScreenModel" "place" "I") (List.mem_of_getElem? (i := 1) rfl)) (fun _ h9 => h9) rfl dX6_change_2 ?_
  obtain ⟨r_1, hq_1, hf⟩ := ob_inv hf
  refine my_cVi (As := [.int m_place]) (rest := []) ⟨hx, hb, hml, hown, hts⟩ (c_X6_isAttribute l dC dI cI hM hR hT hZ m_allRows m_allColumns m_rows m_columns m_cells m_cursor m_locked m_insert m_alarms m_rejects m_latest m_thrown m_streamLong m_at m_place m_orders m_escaped m_broken m_signBefore m_free m_waitsLong m_cutOff m_screen m_stream m_waits _ m_place r_1 hq_1) (cwV 1 hts gX6_change_X6_isAttribute rfl rfl rfl (by decide +kernel) ⟨Nat.le_of_ble_eq_true rfl, Nat.le_of_ble_eq_true rfl⟩) hK hP hD hS hA 0 7 rfl rfl rfl hl.1 rfl (Nat.le_of_ble_eq_true rfl) dX6_change_5 ⟨Nat.zero_le _, Nat.zero_le _⟩ (fun _ H locs hP hD hS => ?_)
  have hP : va_P (dC, dI) vwCl (wM hM hR hT hZ cI m_allRows m_allColumns m_rows m_columns m_cells m_cursor m_locked m_insert m_alarms m_rejects m_latest m_thrown m_streamLong m_at m_place m_orders m_escaped m_broken m_signBefore m_free m_waitsLong m_cutOff m_screen m_stream m_waits) H := hP
  have hD : va_D A (wM hM hR hT hZ cI m_allRows m_allColumns m_rows m_columns m_cells m_cursor m_locked m_insert m_alarms m_rejects m_latest m_thrown m_streamLong m_at m_place m_orders m_escaped m_broken m_signBefore m_free m_waitsLong m_cutOff m_screen m_stream m_waits) := hD
  refine lv_if_ne (tgt := 16) hx hb dX6_change_8 (by decide) (fun c_2 => ?_) (fun c_2 => ?_)
  · have hf := (if_neg c_2).symm.trans hf
    refine lv_aload_n hx hb dX6_change_16 rfl (lv_at hl 0 rfl) ?_
    obtain ⟨⟨r_3, m_at_3, m_broken_3⟩, hq_3, hf⟩ := ob_inv hf
    refine my_cVi (As := []) (rest := []) ⟨hx, hb, hml, hown, hts⟩ (c_X6_pairs l dC dI cI hM hR hT hZ m_allRows m_allColumns m_rows m_columns m_cells m_cursor m_locked m_insert m_alarms m_rejects m_latest m_thrown m_streamLong m_at m_place m_orders m_escaped m_broken m_signBefore m_free m_waitsLong m_cutOff m_screen m_stream m_waits _  (r_3, m_at_3, m_broken_3) hq_3) (cwV 0 hts gX6_change_X6_pairs rfl rfl rfl (by decide +kernel) ⟨Nat.le_of_ble_eq_true rfl, Nat.le_of_ble_eq_true rfl⟩) hK hP hD hS hA 0 7 rfl rfl rfl hl.1 rfl (Nat.le_of_ble_eq_true rfl) dX6_change_17 ⟨Nat.zero_le _, Nat.zero_le _⟩ (fun _ H locs hP hD hS => ?_)
    have hP : va_P (dC, dI) vwCl (wM hM hR hT hZ cI m_allRows m_allColumns m_rows m_columns m_cells m_cursor m_locked m_insert m_alarms m_rejects m_latest m_thrown m_streamLong m_at_3 m_place m_orders m_escaped m_broken_3 m_signBefore m_free m_waitsLong m_cutOff m_screen m_stream m_waits) H := hP
    have hD : va_D A (wM hM hR hT hZ cI m_allRows m_allColumns m_rows m_columns m_cells m_cursor m_locked m_insert m_alarms m_rejects m_latest m_thrown m_streamLong m_at_3 m_place m_orders m_escaped m_broken_3 m_signBefore m_free m_waitsLong m_cutOff m_screen m_stream m_waits) := hD
    refine lv_istore_n (lv' := [(1, .int r_3), (0, .ref hM)]) hx hb dX6_change_20 rfl hl (by decide) rfl (fun ls hl => ?_)
    refine lv_aload_n hx hb dX6_change_21 rfl (lv_at hl 1 rfl) ?_
    refine va_get (D := (dC, dI)) (ci := 7) (v := .int (b2i m_broken_3)) (C := RX6) (T := TX6) (N := 25) hx hb hts uu_X6_change_X6 hown hK hP 0 rfl rfl 19 (by decide) (hts (.fieldLink RX6 73 "BlockScreenModel" "broken" "Z") (List.mem_of_getElem? (i := 2) rfl)) (fun _ h9 => h9) rfl dX6_change_22 ?_
    refine lv_if_eq (tgt := 29) hx hb dX6_change_25 (by decide) (fun c_4 => ?_) (fun c_4 => ?_)
    · have hf := (if_pos c_4).symm.trans hf
      refine lv_iload_n hx hb dX6_change_29 rfl (lv_at hl 0 rfl) ?_
      refine lv_iconst (v := (-1)) hx hb dX6_change_30 (by decide) ?_
      refine lv_icmp_eq (tgt := 48) hx hb dX6_change_31 (by decide) (fun c_5 => ?_) (fun c_5 => ?_)
      · have hf := (if_pos c_5).symm.trans hf
        refine lv_aload_n hx hb dX6_change_48 rfl (lv_at hl 1 rfl) ?_
        refine lv_aload_n hx hb dX6_change_49 rfl (lv_at hl 1 rfl) ?_
        refine lv_aload_n hx hb dX6_change_50 rfl (lv_at hl 1 rfl) ?_
        refine va_get (D := (dC, dI)) (ci := 7) (v := .int m_place) (C := RX6) (T := TX6) (N := 25) hx hb hts uu_X6_change_X6 hown hK hP 0 rfl rfl 16 (by decide) (hts (.fieldLink RX6 85 "BlockScreenModel" "place" "I") (List.mem_of_getElem? (i := 1) rfl)) (fun _ h9 => h9) rfl dX6_change_51 ?_
        refine lv_iconst (v := 1) hx hb dX6_change_54 (by decide) ?_
        refine lv_iadd hx hb dX6_change_55 ?_
        obtain ⟨r_6, hq_6, hf⟩ := ob_inv hf
        refine my_cVi (As := [.int (m_place + 1)]) (rest := [.ref hM]) ⟨hx, hb, hml, hown, hts⟩ (c_X6_round l dC dI cI hM hR hT hZ m_allRows m_allColumns m_rows m_columns m_cells m_cursor m_locked m_insert m_alarms m_rejects m_latest m_thrown m_streamLong m_at_3 m_place m_orders m_escaped m_broken_3 m_signBefore m_free m_waitsLong m_cutOff m_screen m_stream m_waits _ (m_place + 1) r_6 hq_6) (cwV 1 hts gX6_change_X6_round rfl rfl rfl (by decide +kernel) ⟨Nat.le_of_ble_eq_true rfl, Nat.le_of_ble_eq_true rfl⟩) hK hP hD hS hA 0 7 rfl rfl rfl hl.1 rfl (Nat.le_of_ble_eq_true rfl) dX6_change_56 ⟨Nat.zero_le _, Nat.zero_le _⟩ (fun _ H locs hP hD hS => ?_)
        have hP : va_P (dC, dI) vwCl (wM hM hR hT hZ cI m_allRows m_allColumns m_rows m_columns m_cells m_cursor m_locked m_insert m_alarms m_rejects m_latest m_thrown m_streamLong m_at_3 m_place m_orders m_escaped m_broken_3 m_signBefore m_free m_waitsLong m_cutOff m_screen m_stream m_waits) H := hP
        have hD : va_D A (wM hM hR hT hZ cI m_allRows m_allColumns m_rows m_columns m_cells m_cursor m_locked m_insert m_alarms m_rejects m_latest m_thrown m_streamLong m_at_3 m_place m_orders m_escaped m_broken_3 m_signBefore m_free m_waitsLong m_cutOff m_screen m_stream m_waits) := hD
        refine va_put (D := (dC, dI)) (ci := 7) (v := .int r_6) (C := RX6) (T := TX6) (N := 25) hx hb hts uu_X6_change_X6 tyX6 tyX6_ok nmX6 hown hK hP hD hS 0 rfl rfl 16 (by decide) (hts (.fieldLink RX6 85 "BlockScreenModel" "place" "I") (List.mem_of_getElem? (i := 1) rfl)) (fun _ h9 => h9) rfl (tyX6_ok 16 (by decide)) rfl rfl (Nat.le_of_ble_eq_true rfl) dX6_change_59 (fun H locs hP hD hS => ?_)
        have hP : va_P (dC, dI) vwCl (wM hM hR hT hZ cI m_allRows m_allColumns m_rows m_columns m_cells m_cursor m_locked m_insert m_alarms m_rejects m_latest m_thrown m_streamLong m_at_3 r_6 m_orders m_escaped m_broken_3 m_signBefore m_free m_waitsLong m_cutOff m_screen m_stream m_waits) H := hP
        have hD : va_D A (wM hM hR hT hZ cI m_allRows m_allColumns m_rows m_columns m_cells m_cursor m_locked m_insert m_alarms m_rejects m_latest m_thrown m_streamLong m_at_3 r_6 m_orders m_escaped m_broken_3 m_signBefore m_free m_waitsLong m_cutOff m_screen m_stream m_waits) := hD
        have hf := Option.some.inj hf
        subst hf
        exact my_retv () hx hb hr hlocks hK hP hD hS dX6_change_62
      · have hf := (if_neg c_5).symm.trans hf
        refine lv_aload_n hx hb dX6_change_34 rfl (lv_at hl 1 rfl) ?_
        refine va_get (D := (dC, dI)) (ci := 7) (v := .ref hR) (C := RX6) (T := TX6) (N := 25) hx hb hts uu_X6_change_X6 hown hK hP 0 rfl rfl 6 (by decide) (hts (.fieldLink RX6 7 "BlockScreenModel" "screen" "[I") (List.mem_of_getElem? (i := 3) rfl)) (fun _ h9 => h9) rfl dX6_change_35 ?_
        refine lv_aload_n hx hb dX6_change_38 rfl (lv_at hl 1 rfl) ?_
        refine va_get (D := (dC, dI)) (ci := 7) (v := .int m_place) (C := RX6) (T := TX6) (N := 25) hx hb hts uu_X6_change_X6 hown hK hP 0 rfl rfl 16 (by decide) (hts (.fieldLink RX6 85 "BlockScreenModel" "place" "I") (List.mem_of_getElem? (i := 1) rfl)) (fun _ h9 => h9) rfl dX6_change_39 ?_
        refine lv_sipush (v := 256) hx hb dX6_change_42 (by decide) ?_
        refine lv_iload_n hx hb dX6_change_45 rfl (lv_at hl 0 rfl) ?_
        refine lv_iadd hx hb dX6_change_46 ?_
        rcases Classical.em (m_place < 0 ∨ 5676 ≤ m_place.toNatClampNeg) with c_7 | c_7
        · exact nn_abs ((if_pos c_7).symm.trans hf)
        have hf := (if_neg c_7).symm.trans hf
        refine va_iast hx hb hK hP hD hS 1 0 rfl rfl c_7 dX6_change_47 (fun H locs hP hD hS => ?_)
        have hP : va_P (dC, dI) vwCl (wM hM hR hT hZ cI m_allRows m_allColumns m_rows m_columns m_cells m_cursor m_locked m_insert m_alarms m_rejects m_latest m_thrown m_streamLong m_at_3 m_place m_orders m_escaped m_broken_3 m_signBefore m_free m_waitsLong m_cutOff (upd m_screen m_place.toNatClampNeg (256 + r_3)) m_stream m_waits) H := hP
        have hD : va_D A (wM hM hR hT hZ cI m_allRows m_allColumns m_rows m_columns m_cells m_cursor m_locked m_insert m_alarms m_rejects m_latest m_thrown m_streamLong m_at_3 m_place m_orders m_escaped m_broken_3 m_signBefore m_free m_waitsLong m_cutOff (upd m_screen m_place.toNatClampNeg (256 + r_3)) m_stream m_waits) := hD
        refine lv_aload_n hx hb dX6_change_48 rfl (lv_at hl 1 rfl) ?_
        refine lv_aload_n hx hb dX6_change_49 rfl (lv_at hl 1 rfl) ?_
        refine lv_aload_n hx hb dX6_change_50 rfl (lv_at hl 1 rfl) ?_
        refine va_get (D := (dC, dI)) (ci := 7) (v := .int m_place) (C := RX6) (T := TX6) (N := 25) hx hb hts uu_X6_change_X6 hown hK hP 0 rfl rfl 16 (by decide) (hts (.fieldLink RX6 85 "BlockScreenModel" "place" "I") (List.mem_of_getElem? (i := 1) rfl)) (fun _ h9 => h9) rfl dX6_change_51 ?_
        refine lv_iconst (v := 1) hx hb dX6_change_54 (by decide) ?_
        refine lv_iadd hx hb dX6_change_55 ?_
        obtain ⟨r_8, hq_8, hf⟩ := ob_inv hf
        refine my_cVi (As := [.int (m_place + 1)]) (rest := [.ref hM]) ⟨hx, hb, hml, hown, hts⟩ (c_X6_round l dC dI cI hM hR hT hZ m_allRows m_allColumns m_rows m_columns m_cells m_cursor m_locked m_insert m_alarms m_rejects m_latest m_thrown m_streamLong m_at_3 m_place m_orders m_escaped m_broken_3 m_signBefore m_free m_waitsLong m_cutOff (upd m_screen m_place.toNatClampNeg (256 + r_3)) m_stream m_waits _ (m_place + 1) r_8 hq_8) (cwV 1 hts gX6_change_X6_round rfl rfl rfl (by decide +kernel) ⟨Nat.le_of_ble_eq_true rfl, Nat.le_of_ble_eq_true rfl⟩) hK hP hD hS hA 0 7 rfl rfl rfl hl.1 rfl (Nat.le_of_ble_eq_true rfl) dX6_change_56 ⟨Nat.zero_le _, Nat.zero_le _⟩ (fun _ H locs hP hD hS => ?_)
        have hP : va_P (dC, dI) vwCl (wM hM hR hT hZ cI m_allRows m_allColumns m_rows m_columns m_cells m_cursor m_locked m_insert m_alarms m_rejects m_latest m_thrown m_streamLong m_at_3 m_place m_orders m_escaped m_broken_3 m_signBefore m_free m_waitsLong m_cutOff (upd m_screen m_place.toNatClampNeg (256 + r_3)) m_stream m_waits) H := hP
        have hD : va_D A (wM hM hR hT hZ cI m_allRows m_allColumns m_rows m_columns m_cells m_cursor m_locked m_insert m_alarms m_rejects m_latest m_thrown m_streamLong m_at_3 m_place m_orders m_escaped m_broken_3 m_signBefore m_free m_waitsLong m_cutOff (upd m_screen m_place.toNatClampNeg (256 + r_3)) m_stream m_waits) := hD
        refine va_put (D := (dC, dI)) (ci := 7) (v := .int r_8) (C := RX6) (T := TX6) (N := 25) hx hb hts uu_X6_change_X6 tyX6 tyX6_ok nmX6 hown hK hP hD hS 0 rfl rfl 16 (by decide) (hts (.fieldLink RX6 85 "BlockScreenModel" "place" "I") (List.mem_of_getElem? (i := 1) rfl)) (fun _ h9 => h9) rfl (tyX6_ok 16 (by decide)) rfl rfl (Nat.le_of_ble_eq_true rfl) dX6_change_59 (fun H locs hP hD hS => ?_)
        have hP : va_P (dC, dI) vwCl (wM hM hR hT hZ cI m_allRows m_allColumns m_rows m_columns m_cells m_cursor m_locked m_insert m_alarms m_rejects m_latest m_thrown m_streamLong m_at_3 r_8 m_orders m_escaped m_broken_3 m_signBefore m_free m_waitsLong m_cutOff (upd m_screen m_place.toNatClampNeg (256 + r_3)) m_stream m_waits) H := hP
        have hD : va_D A (wM hM hR hT hZ cI m_allRows m_allColumns m_rows m_columns m_cells m_cursor m_locked m_insert m_alarms m_rejects m_latest m_thrown m_streamLong m_at_3 r_8 m_orders m_escaped m_broken_3 m_signBefore m_free m_waitsLong m_cutOff (upd m_screen m_place.toNatClampNeg (256 + r_3)) m_stream m_waits) := hD
        have hf := Option.some.inj hf
        subst hf
        exact my_retv () hx hb hr hlocks hK hP hD hS dX6_change_62
    · have hf := (if_neg c_4).symm.trans hf
      have hf := Option.some.inj hf
      subst hf
      exact my_retv () hx hb hr hlocks hK hP hD hS dX6_change_28
  · have hf := (if_pos c_2).symm.trans hf
    refine lv_aload_n hx hb dX6_change_11 rfl (lv_at hl 0 rfl) ?_
    obtain ⟨m_broken_9, hq_9, hf⟩ := th_inv hf
    refine my_cVv (As := []) (rest := []) ⟨hx, hb, hml, hown, hts⟩ (c_X6_rejected l dC dI cI hM hR hT hZ m_allRows m_allColumns m_rows m_columns m_cells m_cursor m_locked m_insert m_alarms m_rejects m_latest m_thrown m_streamLong m_at m_place m_orders m_escaped m_broken m_signBefore m_free m_waitsLong m_cutOff m_screen m_stream m_waits _  m_broken_9 hq_9) (cwV 0 hts gX6_change_X6_rejected rfl rfl rfl (by decide +kernel) ⟨Nat.le_of_ble_eq_true rfl, Nat.le_of_ble_eq_true rfl⟩) hK hP hD hS hA 0 7 rfl rfl rfl hl.1 rfl (Nat.le_of_ble_eq_true rfl) dX6_change_12 ⟨Nat.zero_le _, Nat.zero_le _⟩ (fun _ H locs hP hD hS => ?_)
    have hP : va_P (dC, dI) vwCl (wM hM hR hT hZ cI m_allRows m_allColumns m_rows m_columns m_cells m_cursor m_locked m_insert m_alarms m_rejects m_latest m_thrown m_streamLong m_at m_place m_orders m_escaped m_broken_9 m_signBefore m_free m_waitsLong m_cutOff m_screen m_stream m_waits) H := hP
    have hD : va_D A (wM hM hR hT hZ cI m_allRows m_allColumns m_rows m_columns m_cells m_cursor m_locked m_insert m_alarms m_rejects m_latest m_thrown m_streamLong m_at m_place m_orders m_escaped m_broken_9 m_signBefore m_free m_waitsLong m_cutOff m_screen m_stream m_waits) := hD
    have hf := Option.some.inj hf
    subst hf
    exact my_retv () hx hb hr hlocks hK hP hD hS dX6_change_15

theorem uu_X6_order_X6 : ∀ w ∈ u_ws RX6 TX6 25, w ∈ wsX6_order := fun _ h => List.mem_cons_of_mem _ (List.mem_append_right _ h)
def f_X6_order_L242 (m_cells : Int32) (m_streamLong : Int32) (m_signBefore : Bool) (m_stream : Nat → Int32)  (z_m_cursor : Int32) (z_m_at : Int32) (z_m_place : Int32) (z_m_orders : Int32) (z_m_broken : Bool) (z_m_screen : Nat → Int32) : Option (Int32 × Int32 × Int32 × Int32 × Bool × (Nat → Int32)) :=
    if (b2i z_m_broken) = 0 then
    some (z_m_cursor, z_m_at, z_m_place, z_m_orders + 1, z_m_broken, z_m_screen)
    else
    some (z_m_cursor, z_m_at, z_m_place, z_m_orders, z_m_broken, z_m_screen)
def f_X6_order (m_cells : Int32) (m_cursor : Int32) (m_streamLong : Int32) (m_at : Int32) (m_place : Int32) (m_orders : Int32) (m_broken : Bool) (m_signBefore : Bool) (m_screen : Nat → Int32) (m_stream : Nat → Int32) (a1 : Int32) : Option (Int32 × Int32 × Int32 × Int32 × Bool × (Nat → Int32)) :=
    if a1 = 5 then
    Option.bind (f_X6_goOnToField m_cells m_place m_signBefore m_screen) (fun (m_place_3, m_screen_3) =>
    f_X6_order_L242 m_cells m_streamLong m_signBefore m_stream  m_cursor m_at m_place_3 m_orders m_broken m_screen_3)
    else
    if a1 = 8 then
    thn (f_X6_lacks m_streamLong m_at m_broken 1) (fun (r_5, m_broken_5) =>
    if (b2i r_5) = 0 then
    Option.bind (f_X6_take m_at m_stream) (fun (r_7, m_at_7) =>
    if (b2i (f_X6_isSign  r_7)) = 0 then
    thn (f_X6_rejected m_broken_5) (fun m_broken_10 =>
    f_X6_order_L242 m_cells m_streamLong m_signBefore m_stream  m_cursor m_at_7 m_place m_orders m_broken_10 m_screen)
    else
    Option.bind (f_X6_put m_cells m_place m_screen r_7) (fun (m_place_11, m_screen_11) =>
    f_X6_order_L242 m_cells m_streamLong m_signBefore m_stream  m_cursor m_at_7 m_place_11 m_orders m_broken_5 m_screen_11))
    else
    some (m_cursor, m_at, m_place, m_orders, m_broken_5, m_screen))
    else
    if a1 = 17 then
    Option.bind (f_X6_address m_cells m_streamLong m_at m_broken m_stream) (fun (r_13, m_at_13, m_broken_13) =>
    if (b2i m_broken_13) = 0 then
    f_X6_order_L242 m_cells m_streamLong m_signBefore m_stream  m_cursor m_at_13 r_13 m_orders m_broken_13 m_screen
    else
    f_X6_order_L242 m_cells m_streamLong m_signBefore m_stream  m_cursor m_at_13 m_place m_orders m_broken_13 m_screen)
    else
    if a1 = 18 then
    Option.bind (f_X6_erase m_cells m_streamLong m_at m_place m_broken m_screen m_stream) (fun (m_at_16, m_place_16, m_broken_16, m_screen_16) =>
    f_X6_order_L242 m_cells m_streamLong m_signBefore m_stream  m_cursor m_at_16 m_place_16 m_orders m_broken_16 m_screen_16)
    else
    if a1 = 19 then
    f_X6_order_L242 m_cells m_streamLong m_signBefore m_stream  m_place m_at m_place m_orders m_broken m_screen
    else
    if a1 = 29 then
    thn (f_X6_lacks m_streamLong m_at m_broken 1) (fun (r_19, m_broken_19) =>
    if (b2i r_19) = 0 then
    Option.bind (f_X6_take m_at m_stream) (fun (r_21, m_at_21) =>
    Option.bind (f_X6_put m_cells m_place m_screen (256 + r_21)) (fun (m_place_22, m_screen_22) =>
    f_X6_order_L242 m_cells m_streamLong m_signBefore m_stream  m_cursor m_at_21 m_place_22 m_orders m_broken_19 m_screen_22))
    else
    f_X6_order_L242 m_cells m_streamLong m_signBefore m_stream  m_cursor m_at m_place m_orders m_broken_19 m_screen)
    else
    if a1 = 41 then
    Option.bind (f_X6_pairs m_streamLong m_at m_broken m_stream) (fun (r_24, m_at_24, m_broken_24) =>
    if (b2i m_broken_24) = 0 then
    if r_24 = (-1) then
    Option.bind (f_X6_put m_cells m_place m_screen (256 + (0 : Int32))) (fun (m_place_28, m_screen_28) =>
    f_X6_order_L242 m_cells m_streamLong m_signBefore m_stream  m_cursor m_at_24 m_place_28 m_orders m_broken_24 m_screen_28)
    else
    Option.bind (f_X6_put m_cells m_place m_screen (256 + r_24)) (fun (m_place_27, m_screen_27) =>
    f_X6_order_L242 m_cells m_streamLong m_signBefore m_stream  m_cursor m_at_24 m_place_27 m_orders m_broken_24 m_screen_27)
    else
    f_X6_order_L242 m_cells m_streamLong m_signBefore m_stream  m_cursor m_at_24 m_place m_orders m_broken_24 m_screen)
    else
    if a1 = 44 then
    Option.bind (f_X6_change m_cells m_streamLong m_at m_place m_broken m_screen m_stream) (fun (m_at_30, m_place_30, m_broken_30, m_screen_30) =>
    f_X6_order_L242 m_cells m_streamLong m_signBefore m_stream  m_cursor m_at_30 m_place_30 m_orders m_broken_30 m_screen_30)
    else
    if a1 = 60 then
    Option.bind (f_X6_repeat m_cells m_streamLong m_at m_place m_broken m_screen m_stream) (fun (m_at_32, m_place_32, m_broken_32, m_screen_32) =>
    f_X6_order_L242 m_cells m_streamLong m_signBefore m_stream  m_cursor m_at_32 m_place_32 m_orders m_broken_32 m_screen_32)
    else
    thn (f_X6_rejected m_broken) (fun m_broken_33 =>
    f_X6_order_L242 m_cells m_streamLong m_signBefore m_stream  m_cursor m_at m_place m_orders m_broken_33 m_screen)
set_option maxHeartbeats 400000 in
set_option maxRecDepth 100000 in
theorem c_X6_order (l : Launch) (dC : Nat → ClassId) (dI : Nat → Nat → Nat) (cI : ClassId) (hM hR hT hZ : Nat) (m_allRows : Int32) (m_allColumns : Int32) (m_rows : Int32) (m_columns : Int32) (m_cells : Int32) (m_cursor : Int32) (m_locked : Bool) (m_insert : Bool) (m_alarms : Int32) (m_rejects : Int32) (m_latest : Int32) (m_thrown : Int32) (m_streamLong : Int32) (m_at : Int32) (m_place : Int32) (m_orders : Int32) (m_escaped : Bool) (m_broken : Bool) (m_signBefore : Bool) (m_free : Bool) (m_waitsLong : Int32) (m_cutOff : Bool) (m_screen : Nat → Int32) (m_stream : Nat → Int32) (m_waits : Nat → Int32) (sz : Nat) (a1 : Int32) (res : Int32 × Int32 × Int32 × Int32 × Bool × (Nat → Int32)) (hf : f_X6_order m_cells m_cursor m_streamLong m_at m_place m_orders m_broken m_signBefore m_screen m_stream a1 = some res) : Met l yX6_order wsX6_order ({ frames := 6, cells := 0, slots := 0, locals := 131 }) (va_Pc [.ref hM, .int a1] (my_Pre (dC, dI) [(cI, .int)] (wM hM hR hT hZ cI m_allRows m_allColumns m_rows m_columns m_cells m_cursor m_locked m_insert m_alarms m_rejects m_latest m_thrown m_streamLong m_at m_place m_orders m_escaped m_broken m_signBefore m_free m_waitsLong m_cutOff m_screen m_stream m_waits) sz)) (my_Qv (S := Unit) (dC, dI) [(cI, .int)] (fun _ => wM hM hR hT hZ cI m_allRows m_allColumns m_rows m_columns m_cells res.1 m_locked m_insert m_alarms m_rejects m_latest m_thrown m_streamLong res.2.1 res.2.2.1 res.2.2.2.1 m_escaped res.2.2.2.2.1 m_signBefore m_free m_waitsLong m_cutOff res.2.2.2.2.2 m_stream m_waits) (va_A (wM hM hR hT hZ cI m_allRows m_allColumns m_rows m_columns m_cells m_cursor m_locked m_insert m_alarms m_rejects m_latest m_thrown m_streamLong m_at m_place m_orders m_escaped m_broken m_signBefore m_free m_waitsLong m_cutOff m_screen m_stream m_waits) sz)) 0 0 (va_A (wM hM hR hT hZ cI m_allRows m_allColumns m_rows m_columns m_cells m_cursor m_locked m_insert m_alarms m_rejects m_latest m_thrown m_streamLong m_at m_place m_orders m_escaped m_broken m_signBefore m_free m_waitsLong m_cutOff m_screen m_stream m_waits) sz) := by
  refine my_enter (cc := cX6_order) (maxL := 5) (ret := none) (Qc := my_Qv (S := Unit) (dC, dI) [(cI, .int)] (fun _ => wM hM hR hT hZ cI m_allRows m_allColumns m_rows m_columns m_cells res.1 m_locked m_insert m_alarms m_rejects m_latest m_thrown m_streamLong res.2.1 res.2.2.1 res.2.2.2.1 m_escaped res.2.2.2.2.1 m_signBefore m_free m_waitsLong m_cutOff res.2.2.2.2.2 m_stream m_waits)) (by decide) rfl (Nat.le_of_ble_eq_true rfl) ?_
  intro p e s m below meth c A ls hx hb hr hml hts hown hlocks hnm hP hK hD hA hS hl
  have hown : s.vm.findClass RX6 = some m.cls := hown
  have hl : lv_has ls 5 [(0, .ref hM), (1, .int a1)] := hl
  have L242 : ∀  (z_m_cursor : Int32) (z_m_at : Int32) (z_m_place : Int32) (z_m_orders : Int32) (z_m_broken : Bool) (z_m_screen : Nat → Int32) (H : Heap) (locs : List Loc), f_X6_order_L242 m_cells m_streamLong m_signBefore m_stream z_m_cursor z_m_at z_m_place z_m_orders z_m_broken z_m_screen = some res → va_P (dC, dI) vwCl (wM hM hR hT hZ cI m_allRows m_allColumns m_rows m_columns m_cells z_m_cursor m_locked m_insert m_alarms m_rejects m_latest m_thrown m_streamLong z_m_at z_m_place z_m_orders m_escaped z_m_broken m_signBefore m_free m_waitsLong m_cutOff z_m_screen m_stream m_waits) H → va_D A (wM hM hR hT hZ cI m_allRows m_allColumns m_rows m_columns m_cells z_m_cursor m_locked m_insert m_alarms m_rejects m_latest m_thrown m_streamLong z_m_at z_m_place z_m_orders m_escaped z_m_broken m_signBefore m_free m_waitsLong m_cutOff z_m_screen m_stream m_waits) → va_S A s.heap H locs → ∀ (ls : Array Slot), lv_has ls 5 [(0, .ref hM)] → W p l e (headSpec wsX6_order ({ frames := 6, cells := 0, slots := 0, locals := 131 })).room s m ([.ref hM, .int a1] : List Value).toArray below meth c H locs 0 0 (MQ below (my_Qv (S := Unit) (dC, dI) [(cI, .int)] (fun _ => wM hM hR hT hZ cI m_allRows m_allColumns m_rows m_columns m_cells res.1 m_locked m_insert m_alarms m_rejects m_latest m_thrown m_streamLong res.2.1 res.2.2.1 res.2.2.2.1 m_escaped res.2.2.2.2.1 m_signBefore m_free m_waitsLong m_cutOff res.2.2.2.2.2 m_stream m_waits) A) ([.ref hM, .int a1] : List Value).toArray s 0 0 A) (F0 m 242 ls []) := by
    intro z_m_cursor z_m_at z_m_place z_m_orders z_m_broken z_m_screen H locs hf  hP hD hS ls hl
    unfold f_X6_order_L242 at hf
    refine lv_aload_n hx hb dX6_order_242 rfl (lv_at hl 0 rfl) ?_
    refine va_get (D := (dC, dI)) (ci := 7) (v := .int (b2i z_m_broken)) (C := RX6) (T := TX6) (N := 25) hx hb hts uu_X6_order_X6 hown hK hP 0 rfl rfl 19 (by decide) (hts (.fieldLink RX6 73 "BlockScreenModel" "broken" "Z") (List.mem_of_getElem? (i := 1) rfl)) (fun _ h9 => h9) rfl dX6_order_243 ?_
    refine lv_if_ne (tgt := 259) hx hb dX6_order_246 (by decide) (fun c_1 => ?_) (fun c_1 => ?_)
    · have hf := (if_neg c_1).symm.trans hf
      have hf := Option.some.inj hf
      subst hf
      exact my_retv () hx hb hr hlocks hK hP hD hS dX6_order_259
    · have hf := (if_pos c_1).symm.trans hf
      refine lv_aload_n hx hb dX6_order_249 rfl (lv_at hl 0 rfl) ?_
      refine lv_dup hx hb dX6_order_250 rfl ?_
      refine va_get (D := (dC, dI)) (ci := 7) (v := .int z_m_orders) (C := RX6) (T := TX6) (N := 25) hx hb hts uu_X6_order_X6 hown hK hP 0 rfl rfl 17 (by decide) (hts (.fieldLink RX6 125 "BlockScreenModel" "orders" "I") (List.mem_of_getElem? (i := 4) rfl)) (fun _ h9 => h9) rfl dX6_order_251 ?_
      refine lv_iconst (v := 1) hx hb dX6_order_254 (by decide) ?_
      refine lv_iadd hx hb dX6_order_255 ?_
      refine va_put (D := (dC, dI)) (ci := 7) (v := .int (z_m_orders + 1)) (C := RX6) (T := TX6) (N := 25) hx hb hts uu_X6_order_X6 tyX6 tyX6_ok nmX6 hown hK hP hD hS 0 rfl rfl 17 (by decide) (hts (.fieldLink RX6 125 "BlockScreenModel" "orders" "I") (List.mem_of_getElem? (i := 4) rfl)) (fun _ h9 => h9) rfl (tyX6_ok 17 (by decide)) rfl rfl (Nat.le_of_ble_eq_true rfl) dX6_order_256 (fun H locs hP hD hS => ?_)
      have hP : va_P (dC, dI) vwCl (wM hM hR hT hZ cI m_allRows m_allColumns m_rows m_columns m_cells z_m_cursor m_locked m_insert m_alarms m_rejects m_latest m_thrown m_streamLong z_m_at z_m_place (z_m_orders + 1) m_escaped z_m_broken m_signBefore m_free m_waitsLong m_cutOff z_m_screen m_stream m_waits) H := hP
      have hD : va_D A (wM hM hR hT hZ cI m_allRows m_allColumns m_rows m_columns m_cells z_m_cursor m_locked m_insert m_alarms m_rejects m_latest m_thrown m_streamLong z_m_at z_m_place (z_m_orders + 1) m_escaped z_m_broken m_signBefore m_free m_waitsLong m_cutOff z_m_screen m_stream m_waits) := hD
      have hf := Option.some.inj hf
      subst hf
      exact my_retv () hx hb hr hlocks hK hP hD hS dX6_order_259
  unfold f_X6_order at hf
  refine lv_iload_n hx hb dX6_order_0 rfl (lv_at hl 1 rfl) ?_
  rcases Classical.em (a1 = 5) with c_2 | c_2
  · have hf := (if_pos c_2).symm.trans hf
    refine lv_lookup (off := 83) (tgt := 84) hx hb dX6_order_1 (by decide) (by rw [c_2]; rfl) (by decide) ?_
    refine lv_aload_n hx hb dX6_order_84 rfl (lv_at hl 0 rfl) ?_
    obtain ⟨⟨m_place_3, m_screen_3⟩, hq_3, hf⟩ := ob_inv hf
    refine my_cVv (As := []) (rest := []) ⟨hx, hb, hml, hown, hts⟩ (c_X6_goOnToField l dC dI cI hM hR hT hZ m_allRows m_allColumns m_rows m_columns m_cells m_cursor m_locked m_insert m_alarms m_rejects m_latest m_thrown m_streamLong m_at m_place m_orders m_escaped m_broken m_signBefore m_free m_waitsLong m_cutOff m_screen m_stream m_waits _  (m_place_3, m_screen_3) hq_3) (cwV 0 hts gX6_order_X6_goOnToField rfl rfl rfl (by decide +kernel) ⟨Nat.le_of_ble_eq_true rfl, Nat.le_of_ble_eq_true rfl⟩) hK hP hD hS hA 0 7 rfl rfl rfl hl.1 rfl (Nat.le_of_ble_eq_true rfl) dX6_order_85 ⟨Nat.zero_le _, Nat.zero_le _⟩ (fun _ H locs hP hD hS => ?_)
    have hP : va_P (dC, dI) vwCl (wM hM hR hT hZ cI m_allRows m_allColumns m_rows m_columns m_cells m_cursor m_locked m_insert m_alarms m_rejects m_latest m_thrown m_streamLong m_at m_place_3 m_orders m_escaped m_broken m_signBefore m_free m_waitsLong m_cutOff m_screen_3 m_stream m_waits) H := hP
    have hD : va_D A (wM hM hR hT hZ cI m_allRows m_allColumns m_rows m_columns m_cells m_cursor m_locked m_insert m_alarms m_rejects m_latest m_thrown m_streamLong m_at m_place_3 m_orders m_escaped m_broken m_signBefore m_free m_waitsLong m_cutOff m_screen_3 m_stream m_waits) := hD
    refine lv_goto (tgt := 242) hx hb dX6_order_88 (by decide) ?_
    exact L242  m_cursor m_at m_place_3 m_orders m_broken m_screen_3 _ _ hf  hP hD hS ls (lv_sub hl [0] rfl)
  have hf := (if_neg c_2).symm.trans hf
  rcases Classical.em (a1 = 8) with c_4 | c_4
  · have hf := (if_pos c_4).symm.trans hf
    refine lv_lookup (off := 90) (tgt := 91) hx hb dX6_order_1 (by decide) (by rw [c_4]; rfl) (by decide) ?_
    refine lv_aload_n hx hb dX6_order_91 rfl (lv_at hl 0 rfl) ?_
    refine lv_iconst (v := 1) hx hb dX6_order_92 (by decide) ?_
    obtain ⟨⟨r_5, m_broken_5⟩, hq_5, hf⟩ := th_inv hf
    refine my_cVi (As := [.int 1]) (rest := []) ⟨hx, hb, hml, hown, hts⟩ (c_X6_lacks l dC dI cI hM hR hT hZ m_allRows m_allColumns m_rows m_columns m_cells m_cursor m_locked m_insert m_alarms m_rejects m_latest m_thrown m_streamLong m_at m_place m_orders m_escaped m_broken m_signBefore m_free m_waitsLong m_cutOff m_screen m_stream m_waits _ 1 (r_5, m_broken_5) hq_5) (cwV 1 hts gX6_order_X6_lacks rfl rfl rfl (by decide +kernel) ⟨Nat.le_of_ble_eq_true rfl, Nat.le_of_ble_eq_true rfl⟩) hK hP hD hS hA 0 7 rfl rfl rfl hl.1 rfl (Nat.le_of_ble_eq_true rfl) dX6_order_93 ⟨Nat.zero_le _, Nat.zero_le _⟩ (fun _ H locs hP hD hS => ?_)
    have hP : va_P (dC, dI) vwCl (wM hM hR hT hZ cI m_allRows m_allColumns m_rows m_columns m_cells m_cursor m_locked m_insert m_alarms m_rejects m_latest m_thrown m_streamLong m_at m_place m_orders m_escaped m_broken_5 m_signBefore m_free m_waitsLong m_cutOff m_screen m_stream m_waits) H := hP
    have hD : va_D A (wM hM hR hT hZ cI m_allRows m_allColumns m_rows m_columns m_cells m_cursor m_locked m_insert m_alarms m_rejects m_latest m_thrown m_streamLong m_at m_place m_orders m_escaped m_broken_5 m_signBefore m_free m_waitsLong m_cutOff m_screen m_stream m_waits) := hD
    refine lv_if_eq (tgt := 100) hx hb dX6_order_96 (by decide) (fun c_6 => ?_) (fun c_6 => ?_)
    · have hf := (if_pos c_6).symm.trans hf
      refine lv_aload_n hx hb dX6_order_100 rfl (lv_at hl 0 rfl) ?_
      obtain ⟨⟨r_7, m_at_7⟩, hq_7, hf⟩ := ob_inv hf
      refine my_cVi (As := []) (rest := []) ⟨hx, hb, hml, hown, hts⟩ (c_X6_take l dC dI cI hM hR hT hZ m_allRows m_allColumns m_rows m_columns m_cells m_cursor m_locked m_insert m_alarms m_rejects m_latest m_thrown m_streamLong m_at m_place m_orders m_escaped m_broken_5 m_signBefore m_free m_waitsLong m_cutOff m_screen m_stream m_waits _  (r_7, m_at_7) hq_7) (cwV 0 hts gX6_order_X6_take rfl rfl rfl (by decide +kernel) ⟨Nat.le_of_ble_eq_true rfl, Nat.le_of_ble_eq_true rfl⟩) hK hP hD hS hA 0 7 rfl rfl rfl hl.1 rfl (Nat.le_of_ble_eq_true rfl) dX6_order_101 ⟨Nat.zero_le _, Nat.zero_le _⟩ (fun _ H locs hP hD hS => ?_)
      have hP : va_P (dC, dI) vwCl (wM hM hR hT hZ cI m_allRows m_allColumns m_rows m_columns m_cells m_cursor m_locked m_insert m_alarms m_rejects m_latest m_thrown m_streamLong m_at_7 m_place m_orders m_escaped m_broken_5 m_signBefore m_free m_waitsLong m_cutOff m_screen m_stream m_waits) H := hP
      have hD : va_D A (wM hM hR hT hZ cI m_allRows m_allColumns m_rows m_columns m_cells m_cursor m_locked m_insert m_alarms m_rejects m_latest m_thrown m_streamLong m_at_7 m_place m_orders m_escaped m_broken_5 m_signBefore m_free m_waitsLong m_cutOff m_screen m_stream m_waits) := hD
      refine lv_istore_n (lv' := [(2, .int r_7), (0, .ref hM), (1, .int a1)]) hx hb dX6_order_104 rfl hl (by decide) rfl (fun ls hl => ?_)
      refine lv_iload_n hx hb dX6_order_105 rfl (lv_at hl 0 rfl) ?_
      refine my_cSi (As := [.int r_7]) (rest := []) ⟨hx, hb, hml, hown, hts⟩ (c_X6_isSign l dC dI cI hM hR hT hZ m_allRows m_allColumns m_rows m_columns m_cells m_cursor m_locked m_insert m_alarms m_rejects m_latest m_thrown m_streamLong m_at_7 m_place m_orders m_escaped m_broken_5 m_signBefore m_free m_waitsLong m_cutOff m_screen m_stream m_waits _ r_7 (f_X6_isSign  r_7) rfl) (va_cwS 1 hts gX6_order_X6_isSign rfl rfl rfl (by decide +kernel) ⟨Nat.le_of_ble_eq_true rfl, Nat.le_of_ble_eq_true rfl⟩) hK hP hD hS hA rfl hl.1 rfl (Nat.le_of_ble_eq_true rfl) dX6_order_106 ⟨Nat.zero_le _, Nat.zero_le _⟩ (fun _ H locs hP hD hS => ?_)
      have hP : va_P (dC, dI) vwCl (wM hM hR hT hZ cI m_allRows m_allColumns m_rows m_columns m_cells m_cursor m_locked m_insert m_alarms m_rejects m_latest m_thrown m_streamLong m_at_7 m_place m_orders m_escaped m_broken_5 m_signBefore m_free m_waitsLong m_cutOff m_screen m_stream m_waits) H := hP
      have hD : va_D A (wM hM hR hT hZ cI m_allRows m_allColumns m_rows m_columns m_cells m_cursor m_locked m_insert m_alarms m_rejects m_latest m_thrown m_streamLong m_at_7 m_place m_orders m_escaped m_broken_5 m_signBefore m_free m_waitsLong m_cutOff m_screen m_stream m_waits) := hD
      refine lv_if_eq (tgt := 120) hx hb dX6_order_109 (by decide) (fun c_9 => ?_) (fun c_9 => ?_)
      · have hf := (if_pos c_9).symm.trans hf
        refine lv_aload_n hx hb dX6_order_120 rfl (lv_at hl 1 rfl) ?_
        obtain ⟨m_broken_10, hq_10, hf⟩ := th_inv hf
        refine my_cVv (As := []) (rest := []) ⟨hx, hb, hml, hown, hts⟩ (c_X6_rejected l dC dI cI hM hR hT hZ m_allRows m_allColumns m_rows m_columns m_cells m_cursor m_locked m_insert m_alarms m_rejects m_latest m_thrown m_streamLong m_at_7 m_place m_orders m_escaped m_broken_5 m_signBefore m_free m_waitsLong m_cutOff m_screen m_stream m_waits _  m_broken_10 hq_10) (cwV 0 hts gX6_order_X6_rejected rfl rfl rfl (by decide +kernel) ⟨Nat.le_of_ble_eq_true rfl, Nat.le_of_ble_eq_true rfl⟩) hK hP hD hS hA 0 7 rfl rfl rfl hl.1 rfl (Nat.le_of_ble_eq_true rfl) dX6_order_121 ⟨Nat.zero_le _, Nat.zero_le _⟩ (fun _ H locs hP hD hS => ?_)
        have hP : va_P (dC, dI) vwCl (wM hM hR hT hZ cI m_allRows m_allColumns m_rows m_columns m_cells m_cursor m_locked m_insert m_alarms m_rejects m_latest m_thrown m_streamLong m_at_7 m_place m_orders m_escaped m_broken_10 m_signBefore m_free m_waitsLong m_cutOff m_screen m_stream m_waits) H := hP
        have hD : va_D A (wM hM hR hT hZ cI m_allRows m_allColumns m_rows m_columns m_cells m_cursor m_locked m_insert m_alarms m_rejects m_latest m_thrown m_streamLong m_at_7 m_place m_orders m_escaped m_broken_10 m_signBefore m_free m_waitsLong m_cutOff m_screen m_stream m_waits) := hD
        refine lv_goto (tgt := 242) hx hb dX6_order_124 (by decide) ?_
        exact L242  m_cursor m_at_7 m_place m_orders m_broken_10 m_screen _ _ hf  hP hD hS ls (lv_sub hl [1] rfl)
      · have hf := (if_neg c_9).symm.trans hf
        refine lv_aload_n hx hb dX6_order_112 rfl (lv_at hl 1 rfl) ?_
        refine lv_iload_n hx hb dX6_order_113 rfl (lv_at hl 0 rfl) ?_
        obtain ⟨⟨m_place_11, m_screen_11⟩, hq_11, hf⟩ := ob_inv hf
        refine my_cVv (As := [.int r_7]) (rest := []) ⟨hx, hb, hml, hown, hts⟩ (c_X6_put l dC dI cI hM hR hT hZ m_allRows m_allColumns m_rows m_columns m_cells m_cursor m_locked m_insert m_alarms m_rejects m_latest m_thrown m_streamLong m_at_7 m_place m_orders m_escaped m_broken_5 m_signBefore m_free m_waitsLong m_cutOff m_screen m_stream m_waits _ r_7 (m_place_11, m_screen_11) hq_11) (cwV 1 hts gX6_order_X6_put rfl rfl rfl (by decide +kernel) ⟨Nat.le_of_ble_eq_true rfl, Nat.le_of_ble_eq_true rfl⟩) hK hP hD hS hA 0 7 rfl rfl rfl hl.1 rfl (Nat.le_of_ble_eq_true rfl) dX6_order_114 ⟨Nat.zero_le _, Nat.zero_le _⟩ (fun _ H locs hP hD hS => ?_)
        have hP : va_P (dC, dI) vwCl (wM hM hR hT hZ cI m_allRows m_allColumns m_rows m_columns m_cells m_cursor m_locked m_insert m_alarms m_rejects m_latest m_thrown m_streamLong m_at_7 m_place_11 m_orders m_escaped m_broken_5 m_signBefore m_free m_waitsLong m_cutOff m_screen_11 m_stream m_waits) H := hP
        have hD : va_D A (wM hM hR hT hZ cI m_allRows m_allColumns m_rows m_columns m_cells m_cursor m_locked m_insert m_alarms m_rejects m_latest m_thrown m_streamLong m_at_7 m_place_11 m_orders m_escaped m_broken_5 m_signBefore m_free m_waitsLong m_cutOff m_screen_11 m_stream m_waits) := hD
        refine lv_goto (tgt := 242) hx hb dX6_order_117 (by decide) ?_
        exact L242  m_cursor m_at_7 m_place_11 m_orders m_broken_5 m_screen_11 _ _ hf  hP hD hS ls (lv_sub hl [1] rfl)
    · have hf := (if_neg c_6).symm.trans hf
      have hf := Option.some.inj hf
      subst hf
      exact my_retv () hx hb hr hlocks hK hP hD hS dX6_order_99
  have hf := (if_neg c_4).symm.trans hf
  rcases Classical.em (a1 = 17) with c_12 | c_12
  · have hf := (if_pos c_12).symm.trans hf
    refine lv_lookup (off := 126) (tgt := 127) hx hb dX6_order_1 (by decide) (by rw [c_12]; rfl) (by decide) ?_
    refine lv_aload_n hx hb dX6_order_127 rfl (lv_at hl 0 rfl) ?_
    obtain ⟨⟨r_13, m_at_13, m_broken_13⟩, hq_13, hf⟩ := ob_inv hf
    refine my_cVi (As := []) (rest := []) ⟨hx, hb, hml, hown, hts⟩ (c_X6_address l dC dI cI hM hR hT hZ m_allRows m_allColumns m_rows m_columns m_cells m_cursor m_locked m_insert m_alarms m_rejects m_latest m_thrown m_streamLong m_at m_place m_orders m_escaped m_broken m_signBefore m_free m_waitsLong m_cutOff m_screen m_stream m_waits _  (r_13, m_at_13, m_broken_13) hq_13) (cwV 0 hts gX6_order_X6_address rfl rfl rfl (by decide +kernel) ⟨Nat.le_of_ble_eq_true rfl, Nat.le_of_ble_eq_true rfl⟩) hK hP hD hS hA 0 7 rfl rfl rfl hl.1 rfl (Nat.le_of_ble_eq_true rfl) dX6_order_128 ⟨Nat.zero_le _, Nat.zero_le _⟩ (fun _ H locs hP hD hS => ?_)
    have hP : va_P (dC, dI) vwCl (wM hM hR hT hZ cI m_allRows m_allColumns m_rows m_columns m_cells m_cursor m_locked m_insert m_alarms m_rejects m_latest m_thrown m_streamLong m_at_13 m_place m_orders m_escaped m_broken_13 m_signBefore m_free m_waitsLong m_cutOff m_screen m_stream m_waits) H := hP
    have hD : va_D A (wM hM hR hT hZ cI m_allRows m_allColumns m_rows m_columns m_cells m_cursor m_locked m_insert m_alarms m_rejects m_latest m_thrown m_streamLong m_at_13 m_place m_orders m_escaped m_broken_13 m_signBefore m_free m_waitsLong m_cutOff m_screen m_stream m_waits) := hD
    refine lv_istore_n (lv' := [(3, .int r_13), (0, .ref hM), (1, .int a1)]) hx hb dX6_order_131 rfl hl (by decide) rfl (fun ls hl => ?_)
    refine lv_aload_n hx hb dX6_order_132 rfl (lv_at hl 1 rfl) ?_
    refine va_get (D := (dC, dI)) (ci := 7) (v := .int (b2i m_broken_13)) (C := RX6) (T := TX6) (N := 25) hx hb hts uu_X6_order_X6 hown hK hP 0 rfl rfl 19 (by decide) (hts (.fieldLink RX6 73 "BlockScreenModel" "broken" "Z") (List.mem_of_getElem? (i := 1) rfl)) (fun _ h9 => h9) rfl dX6_order_133 ?_
    refine lv_if_ne (tgt := 242) hx hb dX6_order_136 (by decide) (fun c_14 => ?_) (fun c_14 => ?_)
    · have hf := (if_neg c_14).symm.trans hf
      exact L242  m_cursor m_at_13 m_place m_orders m_broken_13 m_screen _ _ hf  hP hD hS ls (lv_sub hl [1] rfl)
    · have hf := (if_pos c_14).symm.trans hf
      refine lv_aload_n hx hb dX6_order_139 rfl (lv_at hl 1 rfl) ?_
      refine lv_iload_n hx hb dX6_order_140 rfl (lv_at hl 0 rfl) ?_
      refine va_put (D := (dC, dI)) (ci := 7) (v := .int r_13) (C := RX6) (T := TX6) (N := 25) hx hb hts uu_X6_order_X6 tyX6 tyX6_ok nmX6 hown hK hP hD hS 0 rfl rfl 16 (by decide) (hts (.fieldLink RX6 85 "BlockScreenModel" "place" "I") (List.mem_of_getElem? (i := 2) rfl)) (fun _ h9 => h9) rfl (tyX6_ok 16 (by decide)) rfl rfl (Nat.le_of_ble_eq_true rfl) dX6_order_141 (fun H locs hP hD hS => ?_)
      have hP : va_P (dC, dI) vwCl (wM hM hR hT hZ cI m_allRows m_allColumns m_rows m_columns m_cells m_cursor m_locked m_insert m_alarms m_rejects m_latest m_thrown m_streamLong m_at_13 r_13 m_orders m_escaped m_broken_13 m_signBefore m_free m_waitsLong m_cutOff m_screen m_stream m_waits) H := hP
      have hD : va_D A (wM hM hR hT hZ cI m_allRows m_allColumns m_rows m_columns m_cells m_cursor m_locked m_insert m_alarms m_rejects m_latest m_thrown m_streamLong m_at_13 r_13 m_orders m_escaped m_broken_13 m_signBefore m_free m_waitsLong m_cutOff m_screen m_stream m_waits) := hD
      refine lv_goto (tgt := 242) hx hb dX6_order_144 (by decide) ?_
      exact L242  m_cursor m_at_13 r_13 m_orders m_broken_13 m_screen _ _ hf  hP hD hS ls (lv_sub hl [1] rfl)
  have hf := (if_neg c_12).symm.trans hf
  rcases Classical.em (a1 = 18) with c_15 | c_15
  · have hf := (if_pos c_15).symm.trans hf
    refine lv_lookup (off := 146) (tgt := 147) hx hb dX6_order_1 (by decide) (by rw [c_15]; rfl) (by decide) ?_
    refine lv_aload_n hx hb dX6_order_147 rfl (lv_at hl 0 rfl) ?_
    obtain ⟨⟨m_at_16, m_place_16, m_broken_16, m_screen_16⟩, hq_16, hf⟩ := ob_inv hf
    refine my_cVv (As := []) (rest := []) ⟨hx, hb, hml, hown, hts⟩ (c_X6_erase l dC dI cI hM hR hT hZ m_allRows m_allColumns m_rows m_columns m_cells m_cursor m_locked m_insert m_alarms m_rejects m_latest m_thrown m_streamLong m_at m_place m_orders m_escaped m_broken m_signBefore m_free m_waitsLong m_cutOff m_screen m_stream m_waits _  (m_at_16, m_place_16, m_broken_16, m_screen_16) hq_16) (cwV 0 hts gX6_order_X6_erase rfl rfl rfl (by decide +kernel) ⟨Nat.le_of_ble_eq_true rfl, Nat.le_of_ble_eq_true rfl⟩) hK hP hD hS hA 0 7 rfl rfl rfl hl.1 rfl (Nat.le_of_ble_eq_true rfl) dX6_order_148 ⟨Nat.zero_le _, Nat.zero_le _⟩ (fun _ H locs hP hD hS => ?_)
    have hP : va_P (dC, dI) vwCl (wM hM hR hT hZ cI m_allRows m_allColumns m_rows m_columns m_cells m_cursor m_locked m_insert m_alarms m_rejects m_latest m_thrown m_streamLong m_at_16 m_place_16 m_orders m_escaped m_broken_16 m_signBefore m_free m_waitsLong m_cutOff m_screen_16 m_stream m_waits) H := hP
    have hD : va_D A (wM hM hR hT hZ cI m_allRows m_allColumns m_rows m_columns m_cells m_cursor m_locked m_insert m_alarms m_rejects m_latest m_thrown m_streamLong m_at_16 m_place_16 m_orders m_escaped m_broken_16 m_signBefore m_free m_waitsLong m_cutOff m_screen_16 m_stream m_waits) := hD
    refine lv_goto (tgt := 242) hx hb dX6_order_151 (by decide) ?_
    exact L242  m_cursor m_at_16 m_place_16 m_orders m_broken_16 m_screen_16 _ _ hf  hP hD hS ls (lv_sub hl [0] rfl)
  have hf := (if_neg c_15).symm.trans hf
  rcases Classical.em (a1 = 19) with c_17 | c_17
  · have hf := (if_pos c_17).symm.trans hf
    refine lv_lookup (off := 153) (tgt := 154) hx hb dX6_order_1 (by decide) (by rw [c_17]; rfl) (by decide) ?_
    refine lv_aload_n hx hb dX6_order_154 rfl (lv_at hl 0 rfl) ?_
    refine lv_aload_n hx hb dX6_order_155 rfl (lv_at hl 0 rfl) ?_
    refine va_get (D := (dC, dI)) (ci := 7) (v := .int m_place) (C := RX6) (T := TX6) (N := 25) hx hb hts uu_X6_order_X6 hown hK hP 0 rfl rfl 16 (by decide) (hts (.fieldLink RX6 85 "BlockScreenModel" "place" "I") (List.mem_of_getElem? (i := 2) rfl)) (fun _ h9 => h9) rfl dX6_order_156 ?_
    refine va_put (D := (dC, dI)) (ci := 7) (v := .int m_place) (C := RX6) (T := TX6) (N := 25) hx hb hts uu_X6_order_X6 tyX6 tyX6_ok nmX6 hown hK hP hD hS 0 rfl rfl 5 (by decide) (hts (.fieldLink RX6 49 "BlockScreenModel" "cursor" "I") (List.mem_of_getElem? (i := 3) rfl)) (fun _ h9 => h9) rfl (tyX6_ok 5 (by decide)) rfl rfl (Nat.le_of_ble_eq_true rfl) dX6_order_159 (fun H locs hP hD hS => ?_)
    have hP : va_P (dC, dI) vwCl (wM hM hR hT hZ cI m_allRows m_allColumns m_rows m_columns m_cells m_place m_locked m_insert m_alarms m_rejects m_latest m_thrown m_streamLong m_at m_place m_orders m_escaped m_broken m_signBefore m_free m_waitsLong m_cutOff m_screen m_stream m_waits) H := hP
    have hD : va_D A (wM hM hR hT hZ cI m_allRows m_allColumns m_rows m_columns m_cells m_place m_locked m_insert m_alarms m_rejects m_latest m_thrown m_streamLong m_at m_place m_orders m_escaped m_broken m_signBefore m_free m_waitsLong m_cutOff m_screen m_stream m_waits) := hD
    refine lv_goto (tgt := 242) hx hb dX6_order_162 (by decide) ?_
    exact L242  m_place m_at m_place m_orders m_broken m_screen _ _ hf  hP hD hS ls (lv_sub hl [0] rfl)
  have hf := (if_neg c_17).symm.trans hf
  rcases Classical.em (a1 = 29) with c_18 | c_18
  · have hf := (if_pos c_18).symm.trans hf
    refine lv_lookup (off := 164) (tgt := 165) hx hb dX6_order_1 (by decide) (by rw [c_18]; rfl) (by decide) ?_
    refine lv_aload_n hx hb dX6_order_165 rfl (lv_at hl 0 rfl) ?_
    refine lv_iconst (v := 1) hx hb dX6_order_166 (by decide) ?_
    obtain ⟨⟨r_19, m_broken_19⟩, hq_19, hf⟩ := th_inv hf
    refine my_cVi (As := [.int 1]) (rest := []) ⟨hx, hb, hml, hown, hts⟩ (c_X6_lacks l dC dI cI hM hR hT hZ m_allRows m_allColumns m_rows m_columns m_cells m_cursor m_locked m_insert m_alarms m_rejects m_latest m_thrown m_streamLong m_at m_place m_orders m_escaped m_broken m_signBefore m_free m_waitsLong m_cutOff m_screen m_stream m_waits _ 1 (r_19, m_broken_19) hq_19) (cwV 1 hts gX6_order_X6_lacks rfl rfl rfl (by decide +kernel) ⟨Nat.le_of_ble_eq_true rfl, Nat.le_of_ble_eq_true rfl⟩) hK hP hD hS hA 0 7 rfl rfl rfl hl.1 rfl (Nat.le_of_ble_eq_true rfl) dX6_order_167 ⟨Nat.zero_le _, Nat.zero_le _⟩ (fun _ H locs hP hD hS => ?_)
    have hP : va_P (dC, dI) vwCl (wM hM hR hT hZ cI m_allRows m_allColumns m_rows m_columns m_cells m_cursor m_locked m_insert m_alarms m_rejects m_latest m_thrown m_streamLong m_at m_place m_orders m_escaped m_broken_19 m_signBefore m_free m_waitsLong m_cutOff m_screen m_stream m_waits) H := hP
    have hD : va_D A (wM hM hR hT hZ cI m_allRows m_allColumns m_rows m_columns m_cells m_cursor m_locked m_insert m_alarms m_rejects m_latest m_thrown m_streamLong m_at m_place m_orders m_escaped m_broken_19 m_signBefore m_free m_waitsLong m_cutOff m_screen m_stream m_waits) := hD
    refine lv_if_ne (tgt := 242) hx hb dX6_order_170 (by decide) (fun c_20 => ?_) (fun c_20 => ?_)
    · have hf := (if_neg c_20).symm.trans hf
      exact L242  m_cursor m_at m_place m_orders m_broken_19 m_screen _ _ hf  hP hD hS ls (lv_sub hl [0] rfl)
    · have hf := (if_pos c_20).symm.trans hf
      refine lv_aload_n hx hb dX6_order_173 rfl (lv_at hl 0 rfl) ?_
      refine lv_sipush (v := 256) hx hb dX6_order_174 (by decide) ?_
      refine lv_aload_n hx hb dX6_order_177 rfl (lv_at hl 0 rfl) ?_
      obtain ⟨⟨r_21, m_at_21⟩, hq_21, hf⟩ := ob_inv hf
      refine my_cVi (As := []) (rest := [.int 256, .ref hM]) ⟨hx, hb, hml, hown, hts⟩ (c_X6_take l dC dI cI hM hR hT hZ m_allRows m_allColumns m_rows m_columns m_cells m_cursor m_locked m_insert m_alarms m_rejects m_latest m_thrown m_streamLong m_at m_place m_orders m_escaped m_broken_19 m_signBefore m_free m_waitsLong m_cutOff m_screen m_stream m_waits _  (r_21, m_at_21) hq_21) (cwV 0 hts gX6_order_X6_take rfl rfl rfl (by decide +kernel) ⟨Nat.le_of_ble_eq_true rfl, Nat.le_of_ble_eq_true rfl⟩) hK hP hD hS hA 0 7 rfl rfl rfl hl.1 rfl (Nat.le_of_ble_eq_true rfl) dX6_order_178 ⟨Nat.zero_le _, Nat.zero_le _⟩ (fun _ H locs hP hD hS => ?_)
      have hP : va_P (dC, dI) vwCl (wM hM hR hT hZ cI m_allRows m_allColumns m_rows m_columns m_cells m_cursor m_locked m_insert m_alarms m_rejects m_latest m_thrown m_streamLong m_at_21 m_place m_orders m_escaped m_broken_19 m_signBefore m_free m_waitsLong m_cutOff m_screen m_stream m_waits) H := hP
      have hD : va_D A (wM hM hR hT hZ cI m_allRows m_allColumns m_rows m_columns m_cells m_cursor m_locked m_insert m_alarms m_rejects m_latest m_thrown m_streamLong m_at_21 m_place m_orders m_escaped m_broken_19 m_signBefore m_free m_waitsLong m_cutOff m_screen m_stream m_waits) := hD
      refine lv_iadd hx hb dX6_order_181 ?_
      obtain ⟨⟨m_place_22, m_screen_22⟩, hq_22, hf⟩ := ob_inv hf
      refine my_cVv (As := [.int (256 + r_21)]) (rest := []) ⟨hx, hb, hml, hown, hts⟩ (c_X6_put l dC dI cI hM hR hT hZ m_allRows m_allColumns m_rows m_columns m_cells m_cursor m_locked m_insert m_alarms m_rejects m_latest m_thrown m_streamLong m_at_21 m_place m_orders m_escaped m_broken_19 m_signBefore m_free m_waitsLong m_cutOff m_screen m_stream m_waits _ (256 + r_21) (m_place_22, m_screen_22) hq_22) (cwV 1 hts gX6_order_X6_put rfl rfl rfl (by decide +kernel) ⟨Nat.le_of_ble_eq_true rfl, Nat.le_of_ble_eq_true rfl⟩) hK hP hD hS hA 0 7 rfl rfl rfl hl.1 rfl (Nat.le_of_ble_eq_true rfl) dX6_order_182 ⟨Nat.zero_le _, Nat.zero_le _⟩ (fun _ H locs hP hD hS => ?_)
      have hP : va_P (dC, dI) vwCl (wM hM hR hT hZ cI m_allRows m_allColumns m_rows m_columns m_cells m_cursor m_locked m_insert m_alarms m_rejects m_latest m_thrown m_streamLong m_at_21 m_place_22 m_orders m_escaped m_broken_19 m_signBefore m_free m_waitsLong m_cutOff m_screen_22 m_stream m_waits) H := hP
      have hD : va_D A (wM hM hR hT hZ cI m_allRows m_allColumns m_rows m_columns m_cells m_cursor m_locked m_insert m_alarms m_rejects m_latest m_thrown m_streamLong m_at_21 m_place_22 m_orders m_escaped m_broken_19 m_signBefore m_free m_waitsLong m_cutOff m_screen_22 m_stream m_waits) := hD
      refine lv_goto (tgt := 242) hx hb dX6_order_185 (by decide) ?_
      exact L242  m_cursor m_at_21 m_place_22 m_orders m_broken_19 m_screen_22 _ _ hf  hP hD hS ls (lv_sub hl [0] rfl)
  have hf := (if_neg c_18).symm.trans hf
  rcases Classical.em (a1 = 41) with c_23 | c_23
  · have hf := (if_pos c_23).symm.trans hf
    refine lv_lookup (off := 187) (tgt := 188) hx hb dX6_order_1 (by decide) (by rw [c_23]; rfl) (by decide) ?_
    refine lv_aload_n hx hb dX6_order_188 rfl (lv_at hl 0 rfl) ?_
    obtain ⟨⟨r_24, m_at_24, m_broken_24⟩, hq_24, hf⟩ := ob_inv hf
    refine my_cVi (As := []) (rest := []) ⟨hx, hb, hml, hown, hts⟩ (c_X6_pairs l dC dI cI hM hR hT hZ m_allRows m_allColumns m_rows m_columns m_cells m_cursor m_locked m_insert m_alarms m_rejects m_latest m_thrown m_streamLong m_at m_place m_orders m_escaped m_broken m_signBefore m_free m_waitsLong m_cutOff m_screen m_stream m_waits _  (r_24, m_at_24, m_broken_24) hq_24) (cwV 0 hts gX6_order_X6_pairs rfl rfl rfl (by decide +kernel) ⟨Nat.le_of_ble_eq_true rfl, Nat.le_of_ble_eq_true rfl⟩) hK hP hD hS hA 0 7 rfl rfl rfl hl.1 rfl (Nat.le_of_ble_eq_true rfl) dX6_order_189 ⟨Nat.zero_le _, Nat.zero_le _⟩ (fun _ H locs hP hD hS => ?_)
    have hP : va_P (dC, dI) vwCl (wM hM hR hT hZ cI m_allRows m_allColumns m_rows m_columns m_cells m_cursor m_locked m_insert m_alarms m_rejects m_latest m_thrown m_streamLong m_at_24 m_place m_orders m_escaped m_broken_24 m_signBefore m_free m_waitsLong m_cutOff m_screen m_stream m_waits) H := hP
    have hD : va_D A (wM hM hR hT hZ cI m_allRows m_allColumns m_rows m_columns m_cells m_cursor m_locked m_insert m_alarms m_rejects m_latest m_thrown m_streamLong m_at_24 m_place m_orders m_escaped m_broken_24 m_signBefore m_free m_waitsLong m_cutOff m_screen m_stream m_waits) := hD
    refine lv_istore (lv' := [(4, .int r_24), (0, .ref hM), (1, .int a1)]) hx hb dX6_order_192 hl (by decide) rfl (fun ls hl => ?_)
    refine lv_aload_n hx hb dX6_order_194 rfl (lv_at hl 1 rfl) ?_
    refine va_get (D := (dC, dI)) (ci := 7) (v := .int (b2i m_broken_24)) (C := RX6) (T := TX6) (N := 25) hx hb hts uu_X6_order_X6 hown hK hP 0 rfl rfl 19 (by decide) (hts (.fieldLink RX6 73 "BlockScreenModel" "broken" "Z") (List.mem_of_getElem? (i := 1) rfl)) (fun _ h9 => h9) rfl dX6_order_195 ?_
    refine lv_if_ne (tgt := 242) hx hb dX6_order_198 (by decide) (fun c_25 => ?_) (fun c_25 => ?_)
    · have hf := (if_neg c_25).symm.trans hf
      exact L242  m_cursor m_at_24 m_place m_orders m_broken_24 m_screen _ _ hf  hP hD hS ls (lv_sub hl [1] rfl)
    · have hf := (if_pos c_25).symm.trans hf
      refine lv_aload_n hx hb dX6_order_201 rfl (lv_at hl 1 rfl) ?_
      refine lv_sipush (v := 256) hx hb dX6_order_202 (by decide) ?_
      refine lv_iload hx hb dX6_order_205 (lv_at hl 0 rfl) ?_
      refine lv_iconst (v := (-1)) hx hb dX6_order_207 (by decide) ?_
      refine lv_icmp_ne (tgt := 215) hx hb dX6_order_208 (by decide) (fun c_26 => ?_) (fun c_26 => ?_)
      · have hf := (if_neg c_26).symm.trans hf
        refine lv_iload hx hb dX6_order_215 (lv_at hl 0 rfl) ?_
        refine lv_iadd hx hb dX6_order_217 ?_
        obtain ⟨⟨m_place_27, m_screen_27⟩, hq_27, hf⟩ := ob_inv hf
        refine my_cVv (As := [.int (256 + r_24)]) (rest := []) ⟨hx, hb, hml, hown, hts⟩ (c_X6_put l dC dI cI hM hR hT hZ m_allRows m_allColumns m_rows m_columns m_cells m_cursor m_locked m_insert m_alarms m_rejects m_latest m_thrown m_streamLong m_at_24 m_place m_orders m_escaped m_broken_24 m_signBefore m_free m_waitsLong m_cutOff m_screen m_stream m_waits _ (256 + r_24) (m_place_27, m_screen_27) hq_27) (cwV 1 hts gX6_order_X6_put rfl rfl rfl (by decide +kernel) ⟨Nat.le_of_ble_eq_true rfl, Nat.le_of_ble_eq_true rfl⟩) hK hP hD hS hA 0 7 rfl rfl rfl hl.1 rfl (Nat.le_of_ble_eq_true rfl) dX6_order_218 ⟨Nat.zero_le _, Nat.zero_le _⟩ (fun _ H locs hP hD hS => ?_)
        have hP : va_P (dC, dI) vwCl (wM hM hR hT hZ cI m_allRows m_allColumns m_rows m_columns m_cells m_cursor m_locked m_insert m_alarms m_rejects m_latest m_thrown m_streamLong m_at_24 m_place_27 m_orders m_escaped m_broken_24 m_signBefore m_free m_waitsLong m_cutOff m_screen_27 m_stream m_waits) H := hP
        have hD : va_D A (wM hM hR hT hZ cI m_allRows m_allColumns m_rows m_columns m_cells m_cursor m_locked m_insert m_alarms m_rejects m_latest m_thrown m_streamLong m_at_24 m_place_27 m_orders m_escaped m_broken_24 m_signBefore m_free m_waitsLong m_cutOff m_screen_27 m_stream m_waits) := hD
        refine lv_goto (tgt := 242) hx hb dX6_order_221 (by decide) ?_
        exact L242  m_cursor m_at_24 m_place_27 m_orders m_broken_24 m_screen_27 _ _ hf  hP hD hS ls (lv_sub hl [1] rfl)
      · have hf := (if_pos c_26).symm.trans hf
        refine lv_iconst (v := 0) hx hb dX6_order_211 (by decide) ?_
        refine lv_goto (tgt := 217) hx hb dX6_order_212 (by decide) ?_
        refine lv_iadd hx hb dX6_order_217 ?_
        obtain ⟨⟨m_place_28, m_screen_28⟩, hq_28, hf⟩ := ob_inv hf
        refine my_cVv (As := [.int (256 + (0 : Int32))]) (rest := []) ⟨hx, hb, hml, hown, hts⟩ (c_X6_put l dC dI cI hM hR hT hZ m_allRows m_allColumns m_rows m_columns m_cells m_cursor m_locked m_insert m_alarms m_rejects m_latest m_thrown m_streamLong m_at_24 m_place m_orders m_escaped m_broken_24 m_signBefore m_free m_waitsLong m_cutOff m_screen m_stream m_waits _ (256 + (0 : Int32)) (m_place_28, m_screen_28) hq_28) (cwV 1 hts gX6_order_X6_put rfl rfl rfl (by decide +kernel) ⟨Nat.le_of_ble_eq_true rfl, Nat.le_of_ble_eq_true rfl⟩) hK hP hD hS hA 0 7 rfl rfl rfl hl.1 rfl (Nat.le_of_ble_eq_true rfl) dX6_order_218 ⟨Nat.zero_le _, Nat.zero_le _⟩ (fun _ H locs hP hD hS => ?_)
        have hP : va_P (dC, dI) vwCl (wM hM hR hT hZ cI m_allRows m_allColumns m_rows m_columns m_cells m_cursor m_locked m_insert m_alarms m_rejects m_latest m_thrown m_streamLong m_at_24 m_place_28 m_orders m_escaped m_broken_24 m_signBefore m_free m_waitsLong m_cutOff m_screen_28 m_stream m_waits) H := hP
        have hD : va_D A (wM hM hR hT hZ cI m_allRows m_allColumns m_rows m_columns m_cells m_cursor m_locked m_insert m_alarms m_rejects m_latest m_thrown m_streamLong m_at_24 m_place_28 m_orders m_escaped m_broken_24 m_signBefore m_free m_waitsLong m_cutOff m_screen_28 m_stream m_waits) := hD
        refine lv_goto (tgt := 242) hx hb dX6_order_221 (by decide) ?_
        exact L242  m_cursor m_at_24 m_place_28 m_orders m_broken_24 m_screen_28 _ _ hf  hP hD hS ls (lv_sub hl [1] rfl)
  have hf := (if_neg c_23).symm.trans hf
  rcases Classical.em (a1 = 44) with c_29 | c_29
  · have hf := (if_pos c_29).symm.trans hf
    refine lv_lookup (off := 223) (tgt := 224) hx hb dX6_order_1 (by decide) (by rw [c_29]; rfl) (by decide) ?_
    refine lv_aload_n hx hb dX6_order_224 rfl (lv_at hl 0 rfl) ?_
    obtain ⟨⟨m_at_30, m_place_30, m_broken_30, m_screen_30⟩, hq_30, hf⟩ := ob_inv hf
    refine my_cVv (As := []) (rest := []) ⟨hx, hb, hml, hown, hts⟩ (c_X6_change l dC dI cI hM hR hT hZ m_allRows m_allColumns m_rows m_columns m_cells m_cursor m_locked m_insert m_alarms m_rejects m_latest m_thrown m_streamLong m_at m_place m_orders m_escaped m_broken m_signBefore m_free m_waitsLong m_cutOff m_screen m_stream m_waits _  (m_at_30, m_place_30, m_broken_30, m_screen_30) hq_30) (cwV 0 hts gX6_order_X6_change rfl rfl rfl (by decide +kernel) ⟨Nat.le_of_ble_eq_true rfl, Nat.le_of_ble_eq_true rfl⟩) hK hP hD hS hA 0 7 rfl rfl rfl hl.1 rfl (Nat.le_of_ble_eq_true rfl) dX6_order_225 ⟨Nat.zero_le _, Nat.zero_le _⟩ (fun _ H locs hP hD hS => ?_)
    have hP : va_P (dC, dI) vwCl (wM hM hR hT hZ cI m_allRows m_allColumns m_rows m_columns m_cells m_cursor m_locked m_insert m_alarms m_rejects m_latest m_thrown m_streamLong m_at_30 m_place_30 m_orders m_escaped m_broken_30 m_signBefore m_free m_waitsLong m_cutOff m_screen_30 m_stream m_waits) H := hP
    have hD : va_D A (wM hM hR hT hZ cI m_allRows m_allColumns m_rows m_columns m_cells m_cursor m_locked m_insert m_alarms m_rejects m_latest m_thrown m_streamLong m_at_30 m_place_30 m_orders m_escaped m_broken_30 m_signBefore m_free m_waitsLong m_cutOff m_screen_30 m_stream m_waits) := hD
    refine lv_goto (tgt := 242) hx hb dX6_order_228 (by decide) ?_
    exact L242  m_cursor m_at_30 m_place_30 m_orders m_broken_30 m_screen_30 _ _ hf  hP hD hS ls (lv_sub hl [0] rfl)
  have hf := (if_neg c_29).symm.trans hf
  rcases Classical.em (a1 = 60) with c_31 | c_31
  · have hf := (if_pos c_31).symm.trans hf
    refine lv_lookup (off := 230) (tgt := 231) hx hb dX6_order_1 (by decide) (by rw [c_31]; rfl) (by decide) ?_
    refine lv_aload_n hx hb dX6_order_231 rfl (lv_at hl 0 rfl) ?_
    obtain ⟨⟨m_at_32, m_place_32, m_broken_32, m_screen_32⟩, hq_32, hf⟩ := ob_inv hf
    refine my_cVv (As := []) (rest := []) ⟨hx, hb, hml, hown, hts⟩ (c_X6_repeat l dC dI cI hM hR hT hZ m_allRows m_allColumns m_rows m_columns m_cells m_cursor m_locked m_insert m_alarms m_rejects m_latest m_thrown m_streamLong m_at m_place m_orders m_escaped m_broken m_signBefore m_free m_waitsLong m_cutOff m_screen m_stream m_waits _  (m_at_32, m_place_32, m_broken_32, m_screen_32) hq_32) (cwV 0 hts gX6_order_X6_repeat rfl rfl rfl (by decide +kernel) ⟨Nat.le_of_ble_eq_true rfl, Nat.le_of_ble_eq_true rfl⟩) hK hP hD hS hA 0 7 rfl rfl rfl hl.1 rfl (Nat.le_of_ble_eq_true rfl) dX6_order_232 ⟨Nat.zero_le _, Nat.zero_le _⟩ (fun _ H locs hP hD hS => ?_)
    have hP : va_P (dC, dI) vwCl (wM hM hR hT hZ cI m_allRows m_allColumns m_rows m_columns m_cells m_cursor m_locked m_insert m_alarms m_rejects m_latest m_thrown m_streamLong m_at_32 m_place_32 m_orders m_escaped m_broken_32 m_signBefore m_free m_waitsLong m_cutOff m_screen_32 m_stream m_waits) H := hP
    have hD : va_D A (wM hM hR hT hZ cI m_allRows m_allColumns m_rows m_columns m_cells m_cursor m_locked m_insert m_alarms m_rejects m_latest m_thrown m_streamLong m_at_32 m_place_32 m_orders m_escaped m_broken_32 m_signBefore m_free m_waitsLong m_cutOff m_screen_32 m_stream m_waits) := hD
    refine lv_goto (tgt := 242) hx hb dX6_order_235 (by decide) ?_
    exact L242  m_cursor m_at_32 m_place_32 m_orders m_broken_32 m_screen_32 _ _ hf  hP hD hS ls (lv_sub hl [0] rfl)
  have hf := (if_neg c_31).symm.trans hf
  refine lv_lookup (off := 237) (tgt := 238) hx hb dX6_order_1 (by decide) ((lv_osw c_2 (show (5 : Int32).toInt = 5 from by decide)).trans ((lv_osw c_4 (show (8 : Int32).toInt = 8 from by decide)).trans ((lv_osw c_12 (show (17 : Int32).toInt = 17 from by decide)).trans ((lv_osw c_15 (show (18 : Int32).toInt = 18 from by decide)).trans ((lv_osw c_17 (show (19 : Int32).toInt = 19 from by decide)).trans ((lv_osw c_18 (show (29 : Int32).toInt = 29 from by decide)).trans ((lv_osw c_23 (show (41 : Int32).toInt = 41 from by decide)).trans ((lv_osw c_29 (show (44 : Int32).toInt = 44 from by decide)).trans ((lv_osw c_31 (show (60 : Int32).toInt = 60 from by decide)).trans (rfl)))))))))) (by decide) ?_
  refine lv_aload_n hx hb dX6_order_238 rfl (lv_at hl 0 rfl) ?_
  obtain ⟨m_broken_33, hq_33, hf⟩ := th_inv hf
  refine my_cVv (As := []) (rest := []) ⟨hx, hb, hml, hown, hts⟩ (c_X6_rejected l dC dI cI hM hR hT hZ m_allRows m_allColumns m_rows m_columns m_cells m_cursor m_locked m_insert m_alarms m_rejects m_latest m_thrown m_streamLong m_at m_place m_orders m_escaped m_broken m_signBefore m_free m_waitsLong m_cutOff m_screen m_stream m_waits _  m_broken_33 hq_33) (cwV 0 hts gX6_order_X6_rejected rfl rfl rfl (by decide +kernel) ⟨Nat.le_of_ble_eq_true rfl, Nat.le_of_ble_eq_true rfl⟩) hK hP hD hS hA 0 7 rfl rfl rfl hl.1 rfl (Nat.le_of_ble_eq_true rfl) dX6_order_239 ⟨Nat.zero_le _, Nat.zero_le _⟩ (fun _ H locs hP hD hS => ?_)
  have hP : va_P (dC, dI) vwCl (wM hM hR hT hZ cI m_allRows m_allColumns m_rows m_columns m_cells m_cursor m_locked m_insert m_alarms m_rejects m_latest m_thrown m_streamLong m_at m_place m_orders m_escaped m_broken_33 m_signBefore m_free m_waitsLong m_cutOff m_screen m_stream m_waits) H := hP
  have hD : va_D A (wM hM hR hT hZ cI m_allRows m_allColumns m_rows m_columns m_cells m_cursor m_locked m_insert m_alarms m_rejects m_latest m_thrown m_streamLong m_at m_place m_orders m_escaped m_broken_33 m_signBefore m_free m_waitsLong m_cutOff m_screen m_stream m_waits) := hD
  exact L242  m_cursor m_at m_place m_orders m_broken_33 m_screen _ _ hf  hP hD hS ls (lv_sub hl [0] rfl)

theorem uu_X6_write_X6 : ∀ w ∈ u_ws RX6 TX6 25, w ∈ wsX6_write := fun _ h => List.mem_cons_of_mem _ (List.mem_append_right _ h)
def f_X6_write_L99 (m_cells : Int32) (m_streamLong : Int32) (m_stream : Nat → Int32) : Nat → Int32 → Int32 → Int32 → Int32 → Int32 → Bool → Bool → Bool → (Nat → Int32) → Option (Int32 × Int32 × Int32 × Int32 × Int32 × Bool × Bool × Bool × (Nat → Int32))
  | 0, _, _, _, _, _, _, _, _, _ => none
  | fu + 1, z_m_cursor, z_m_alarms, z_m_at, z_m_place, z_m_orders, z_m_broken, z_m_signBefore, z_m_free, z_m_screen =>
    if (b2i z_m_broken) = 0 then
    if m_streamLong ≤ z_m_at then
    some (z_m_cursor, z_m_alarms, z_m_at, z_m_place, z_m_orders, z_m_broken, z_m_signBefore, z_m_free, z_m_screen)
    else
    Option.bind (f_X6_take z_m_at m_stream) (fun (r_3, m_at_3) =>
    if (b2i (f_X6_isSign  r_3)) = 0 then
    Option.bind (f_X6_order m_cells z_m_cursor m_streamLong m_at_3 z_m_place z_m_orders z_m_broken z_m_signBefore z_m_screen m_stream r_3) (fun (m_cursor_6, m_at_6, m_place_6, m_orders_6, m_broken_6, m_screen_6) =>
    if (b2i (f_X6_isSign  r_3)) = 0 then
    if r_3 = 8 then
    f_X6_write_L99 m_cells m_streamLong m_stream fu m_cursor_6 z_m_alarms m_at_6 m_place_6 m_orders_6 m_broken_6 true z_m_free m_screen_6
    else
    f_X6_write_L99 m_cells m_streamLong m_stream fu m_cursor_6 z_m_alarms m_at_6 m_place_6 m_orders_6 m_broken_6 false z_m_free m_screen_6
    else
    f_X6_write_L99 m_cells m_streamLong m_stream fu m_cursor_6 z_m_alarms m_at_6 m_place_6 m_orders_6 m_broken_6 true z_m_free m_screen_6)
    else
    Option.bind (f_X6_put m_cells z_m_place z_m_screen r_3) (fun (m_place_9, m_screen_9) =>
    if (b2i (f_X6_isSign  r_3)) = 0 then
    if r_3 = 8 then
    f_X6_write_L99 m_cells m_streamLong m_stream fu z_m_cursor z_m_alarms m_at_3 m_place_9 z_m_orders z_m_broken true z_m_free m_screen_9
    else
    f_X6_write_L99 m_cells m_streamLong m_stream fu z_m_cursor z_m_alarms m_at_3 m_place_9 z_m_orders z_m_broken false z_m_free m_screen_9
    else
    f_X6_write_L99 m_cells m_streamLong m_stream fu z_m_cursor z_m_alarms m_at_3 m_place_9 z_m_orders z_m_broken true z_m_free m_screen_9))
    else
    some (z_m_cursor, z_m_alarms, z_m_at, z_m_place, z_m_orders, z_m_broken, z_m_signBefore, z_m_free, z_m_screen)
def f_X6_write_L55 (m_cells : Int32) (m_streamLong : Int32) (m_stream : Nat → Int32) (v1 : Int32) (z_m_cursor : Int32) (z_m_alarms : Int32) (z_m_at : Int32) (z_m_place : Int32) (z_m_orders : Int32) (z_m_broken : Bool) (z_m_signBefore : Bool) (z_m_free : Bool) (z_m_screen : Nat → Int32) : Option (Int32 × Int32 × Int32 × Int32 × Int32 × Bool × Bool × Bool × (Nat → Int32)) :=
    if (v1 &&& 2) = 0 then
    if (v1 &&& 4) = 0 then
    f_X6_write_L99 m_cells m_streamLong m_stream FU z_m_cursor z_m_alarms z_m_at z_m_cursor z_m_orders z_m_broken false false z_m_screen
    else
    f_X6_write_L99 m_cells m_streamLong m_stream FU z_m_cursor (z_m_alarms + 1) z_m_at z_m_cursor z_m_orders z_m_broken false false z_m_screen
    else
    if (v1 &&& 4) = 0 then
    f_X6_write_L99 m_cells m_streamLong m_stream FU z_m_cursor z_m_alarms z_m_at z_m_cursor z_m_orders z_m_broken false true z_m_screen
    else
    f_X6_write_L99 m_cells m_streamLong m_stream FU z_m_cursor (z_m_alarms + 1) z_m_at z_m_cursor z_m_orders z_m_broken false true z_m_screen
def f_X6_write_L22 (m_cells : Int32) (m_streamLong : Int32) (m_stream : Nat → Int32) : Nat → Int32 → Int32 → Int32 → Int32 → Int32 → Int32 → Int32 → Bool → Bool → Bool → (Nat → Int32) → Option (Int32 × Int32 × Int32 × Int32 × Int32 × Bool × Bool × Bool × (Nat → Int32))
  | 0, _, _, _, _, _, _, _, _, _, _, _ => none
  | fu + 1, v1, v2, z_m_cursor, z_m_alarms, z_m_at, z_m_place, z_m_orders, z_m_broken, z_m_signBefore, z_m_free, z_m_screen =>
    if m_cells ≤ v2 then
    f_X6_write_L55 m_cells m_streamLong m_stream  v1 z_m_cursor z_m_alarms z_m_at z_m_place z_m_orders z_m_broken z_m_signBefore z_m_free z_m_screen
    else
    Option.bind (f_X6_isAttribute z_m_screen v2) (fun r_16 =>
    if (b2i r_16) = 0 then
    f_X6_write_L22 m_cells m_streamLong m_stream fu v1 (v2 + 1) z_m_cursor z_m_alarms z_m_at z_m_place z_m_orders z_m_broken z_m_signBefore z_m_free z_m_screen
    else
    if v2 < 0 ∨ 5676 ≤ v2.toNatClampNeg then none else
    f_X6_write_L22 m_cells m_streamLong m_stream fu v1 (v2 + 1) z_m_cursor z_m_alarms z_m_at z_m_place z_m_orders z_m_broken z_m_signBefore z_m_free (upd z_m_screen v2.toNatClampNeg ((z_m_screen v2.toNatClampNeg) &&& (-2))))
def f_X6_write (m_cells : Int32) (m_cursor : Int32) (m_alarms : Int32) (m_streamLong : Int32) (m_at : Int32) (m_place : Int32) (m_orders : Int32) (m_broken : Bool) (m_signBefore : Bool) (m_free : Bool) (m_screen : Nat → Int32) (m_stream : Nat → Int32) : Option (Int32 × Int32 × Int32 × Int32 × Int32 × Bool × Bool × Bool × (Nat → Int32)) :=
    thn (f_X6_lacks m_streamLong m_at m_broken 1) (fun (r_19, m_broken_19) =>
    if (b2i r_19) = 0 then
    Option.bind (f_X6_take m_at m_stream) (fun (r_21, m_at_21) =>
    if (r_21 &&& 1) = 0 then
    f_X6_write_L55 m_cells m_streamLong m_stream  r_21 m_cursor m_alarms m_at_21 m_place m_orders m_broken_19 m_signBefore m_free m_screen
    else
    f_X6_write_L22 m_cells m_streamLong m_stream FU r_21 0 m_cursor m_alarms m_at_21 m_place m_orders m_broken_19 m_signBefore m_free m_screen)
    else
    some (m_cursor, m_alarms, m_at, m_place, m_orders, m_broken_19, m_signBefore, m_free, m_screen))
set_option maxHeartbeats 400000 in
set_option maxRecDepth 100000 in
theorem c_X6_write (l : Launch) (dC : Nat → ClassId) (dI : Nat → Nat → Nat) (cI : ClassId) (hM hR hT hZ : Nat) (m_allRows : Int32) (m_allColumns : Int32) (m_rows : Int32) (m_columns : Int32) (m_cells : Int32) (m_cursor : Int32) (m_locked : Bool) (m_insert : Bool) (m_alarms : Int32) (m_rejects : Int32) (m_latest : Int32) (m_thrown : Int32) (m_streamLong : Int32) (m_at : Int32) (m_place : Int32) (m_orders : Int32) (m_escaped : Bool) (m_broken : Bool) (m_signBefore : Bool) (m_free : Bool) (m_waitsLong : Int32) (m_cutOff : Bool) (m_screen : Nat → Int32) (m_stream : Nat → Int32) (m_waits : Nat → Int32) (sz : Nat)  (res : Int32 × Int32 × Int32 × Int32 × Int32 × Bool × Bool × Bool × (Nat → Int32)) (hf : f_X6_write m_cells m_cursor m_alarms m_streamLong m_at m_place m_orders m_broken m_signBefore m_free m_screen m_stream = some res) : Met l yX6_write wsX6_write ({ frames := 7, cells := 0, slots := 0, locals := 155 }) (va_Pc [.ref hM] (my_Pre (dC, dI) [(cI, .int)] (wM hM hR hT hZ cI m_allRows m_allColumns m_rows m_columns m_cells m_cursor m_locked m_insert m_alarms m_rejects m_latest m_thrown m_streamLong m_at m_place m_orders m_escaped m_broken m_signBefore m_free m_waitsLong m_cutOff m_screen m_stream m_waits) sz)) (my_Qv (S := Unit) (dC, dI) [(cI, .int)] (fun _ => wM hM hR hT hZ cI m_allRows m_allColumns m_rows m_columns m_cells res.1 m_locked m_insert res.2.1 m_rejects m_latest m_thrown m_streamLong res.2.2.1 res.2.2.2.1 res.2.2.2.2.1 m_escaped res.2.2.2.2.2.1 res.2.2.2.2.2.2.1 res.2.2.2.2.2.2.2.1 m_waitsLong m_cutOff res.2.2.2.2.2.2.2.2 m_stream m_waits) (va_A (wM hM hR hT hZ cI m_allRows m_allColumns m_rows m_columns m_cells m_cursor m_locked m_insert m_alarms m_rejects m_latest m_thrown m_streamLong m_at m_place m_orders m_escaped m_broken m_signBefore m_free m_waitsLong m_cutOff m_screen m_stream m_waits) sz)) 0 0 (va_A (wM hM hR hT hZ cI m_allRows m_allColumns m_rows m_columns m_cells m_cursor m_locked m_insert m_alarms m_rejects m_latest m_thrown m_streamLong m_at m_place m_orders m_escaped m_broken m_signBefore m_free m_waitsLong m_cutOff m_screen m_stream m_waits) sz) := by
  refine my_enter (cc := cX6_write) (maxL := 4) (ret := none) (Qc := my_Qv (S := Unit) (dC, dI) [(cI, .int)] (fun _ => wM hM hR hT hZ cI m_allRows m_allColumns m_rows m_columns m_cells res.1 m_locked m_insert res.2.1 m_rejects m_latest m_thrown m_streamLong res.2.2.1 res.2.2.2.1 res.2.2.2.2.1 m_escaped res.2.2.2.2.2.1 res.2.2.2.2.2.2.1 res.2.2.2.2.2.2.2.1 m_waitsLong m_cutOff res.2.2.2.2.2.2.2.2 m_stream m_waits)) (by decide) rfl (Nat.le_of_ble_eq_true rfl) ?_
  intro p e s m below meth c A ls hx hb hr hml hts hown hlocks hnm hP hK hD hA hS hl
  have hown : s.vm.findClass RX6 = some m.cls := hown
  have hl : lv_has ls 4 [(0, .ref hM)] := hl
  have L99 : ∀ (fu : Nat)  (z_m_cursor : Int32) (z_m_alarms : Int32) (z_m_at : Int32) (z_m_place : Int32) (z_m_orders : Int32) (z_m_broken : Bool) (z_m_signBefore : Bool) (z_m_free : Bool) (z_m_screen : Nat → Int32)  (H : Heap) (locs : List Loc), f_X6_write_L99 m_cells m_streamLong m_stream fu z_m_cursor z_m_alarms z_m_at z_m_place z_m_orders z_m_broken z_m_signBefore z_m_free z_m_screen = some res → va_P (dC, dI) vwCl (wM hM hR hT hZ cI m_allRows m_allColumns m_rows m_columns m_cells z_m_cursor m_locked m_insert z_m_alarms m_rejects m_latest m_thrown m_streamLong z_m_at z_m_place z_m_orders m_escaped z_m_broken z_m_signBefore z_m_free m_waitsLong m_cutOff z_m_screen m_stream m_waits) H → va_D A (wM hM hR hT hZ cI m_allRows m_allColumns m_rows m_columns m_cells z_m_cursor m_locked m_insert z_m_alarms m_rejects m_latest m_thrown m_streamLong z_m_at z_m_place z_m_orders m_escaped z_m_broken z_m_signBefore z_m_free m_waitsLong m_cutOff z_m_screen m_stream m_waits) → va_S A s.heap H locs → ∀ (ls : Array Slot), lv_has ls 4 [(0, .ref hM)] → W p l e (headSpec wsX6_write ({ frames := 7, cells := 0, slots := 0, locals := 155 })).room s m ([.ref hM] : List Value).toArray below meth c H locs 0 0 (MQ below (my_Qv (S := Unit) (dC, dI) [(cI, .int)] (fun _ => wM hM hR hT hZ cI m_allRows m_allColumns m_rows m_columns m_cells res.1 m_locked m_insert res.2.1 m_rejects m_latest m_thrown m_streamLong res.2.2.1 res.2.2.2.1 res.2.2.2.2.1 m_escaped res.2.2.2.2.2.1 res.2.2.2.2.2.2.1 res.2.2.2.2.2.2.2.1 m_waitsLong m_cutOff res.2.2.2.2.2.2.2.2 m_stream m_waits) A) ([.ref hM] : List Value).toArray s 0 0 A) (F0 m 99 ls []) := by
    intro fu
    induction fu with
    | zero =>
      intro z_m_cursor z_m_alarms z_m_at z_m_place z_m_orders z_m_broken z_m_signBefore z_m_free z_m_screen H locs hf
      rw [f_X6_write_L99.eq_1] at hf
      cases hf
    | succ fu ih =>
      intro z_m_cursor z_m_alarms z_m_at z_m_place z_m_orders z_m_broken z_m_signBefore z_m_free z_m_screen H locs hf  hP hD hS ls hl
      rw [f_X6_write_L99.eq_2] at hf
      refine lv_aload_n hx hb dX6_write_99 rfl (lv_at hl 0 rfl) ?_
      refine va_get (D := (dC, dI)) (ci := 7) (v := .int (b2i z_m_broken)) (C := RX6) (T := TX6) (N := 25) hx hb hts uu_X6_write_X6 hown hK hP 0 rfl rfl 19 (by decide) (hts (.fieldLink RX6 73 "BlockScreenModel" "broken" "Z") (List.mem_of_getElem? (i := 8) rfl)) (fun _ h9 => h9) rfl dX6_write_100 ?_
      refine lv_if_ne (tgt := 166) hx hb dX6_write_103 (by decide) (fun c_1 => ?_) (fun c_1 => ?_)
      · have hf := (if_neg c_1).symm.trans hf
        have hf := Option.some.inj hf
        subst hf
        exact my_retv () hx hb hr hlocks hK hP hD hS dX6_write_166
      · have hf := (if_pos c_1).symm.trans hf
        refine lv_aload_n hx hb dX6_write_106 rfl (lv_at hl 0 rfl) ?_
        refine va_get (D := (dC, dI)) (ci := 7) (v := .int z_m_at) (C := RX6) (T := TX6) (N := 25) hx hb hts uu_X6_write_X6 hown hK hP 0 rfl rfl 15 (by decide) (hts (.fieldLink RX6 76 "BlockScreenModel" "at" "I") (List.mem_of_getElem? (i := 9) rfl)) (fun _ h9 => h9) rfl dX6_write_107 ?_
        refine lv_aload_n hx hb dX6_write_110 rfl (lv_at hl 0 rfl) ?_
        refine va_get (D := (dC, dI)) (ci := 7) (v := .int m_streamLong) (C := RX6) (T := TX6) (N := 25) hx hb hts uu_X6_write_X6 hown hK hP 0 rfl rfl 14 (by decide) (hts (.fieldLink RX6 79 "BlockScreenModel" "streamLong" "I") (List.mem_of_getElem? (i := 10) rfl)) (fun _ h9 => h9) rfl dX6_write_111 ?_
        refine lv_icmp_ge (tgt := 166) hx hb dX6_write_114 (by decide) (fun c_2 => ?_) (fun c_2 => ?_)
        · have hf := (if_pos c_2).symm.trans hf
          have hf := Option.some.inj hf
          subst hf
          exact my_retv () hx hb hr hlocks hK hP hD hS dX6_write_166
        · have hf := (if_neg c_2).symm.trans hf
          refine lv_aload_n hx hb dX6_write_117 rfl (lv_at hl 0 rfl) ?_
          obtain ⟨⟨r_3, m_at_3⟩, hq_3, hf⟩ := ob_inv hf
          refine my_cVi (As := []) (rest := []) ⟨hx, hb, hml, hown, hts⟩ (c_X6_take l dC dI cI hM hR hT hZ m_allRows m_allColumns m_rows m_columns m_cells z_m_cursor m_locked m_insert z_m_alarms m_rejects m_latest m_thrown m_streamLong z_m_at z_m_place z_m_orders m_escaped z_m_broken z_m_signBefore z_m_free m_waitsLong m_cutOff z_m_screen m_stream m_waits _  (r_3, m_at_3) hq_3) (cwV 0 hts gX6_write_X6_take rfl rfl rfl (by decide +kernel) ⟨Nat.le_of_ble_eq_true rfl, Nat.le_of_ble_eq_true rfl⟩) hK hP hD hS hA 0 7 rfl rfl rfl hl.1 rfl (Nat.le_of_ble_eq_true rfl) dX6_write_118 ⟨Nat.zero_le _, Nat.zero_le _⟩ (fun _ H locs hP hD hS => ?_)
          have hP : va_P (dC, dI) vwCl (wM hM hR hT hZ cI m_allRows m_allColumns m_rows m_columns m_cells z_m_cursor m_locked m_insert z_m_alarms m_rejects m_latest m_thrown m_streamLong m_at_3 z_m_place z_m_orders m_escaped z_m_broken z_m_signBefore z_m_free m_waitsLong m_cutOff z_m_screen m_stream m_waits) H := hP
          have hD : va_D A (wM hM hR hT hZ cI m_allRows m_allColumns m_rows m_columns m_cells z_m_cursor m_locked m_insert z_m_alarms m_rejects m_latest m_thrown m_streamLong m_at_3 z_m_place z_m_orders m_escaped z_m_broken z_m_signBefore z_m_free m_waitsLong m_cutOff z_m_screen m_stream m_waits) := hD
          refine lv_istore_n (lv' := [(2, .int r_3), (0, .ref hM)]) hx hb dX6_write_121 rfl hl (by decide) rfl (fun ls hl => ?_)
          refine lv_iload_n hx hb dX6_write_122 rfl (lv_at hl 0 rfl) ?_
          refine my_cSi (As := [.int r_3]) (rest := []) ⟨hx, hb, hml, hown, hts⟩ (c_X6_isSign l dC dI cI hM hR hT hZ m_allRows m_allColumns m_rows m_columns m_cells z_m_cursor m_locked m_insert z_m_alarms m_rejects m_latest m_thrown m_streamLong m_at_3 z_m_place z_m_orders m_escaped z_m_broken z_m_signBefore z_m_free m_waitsLong m_cutOff z_m_screen m_stream m_waits _ r_3 (f_X6_isSign  r_3) rfl) (va_cwS 1 hts gX6_write_X6_isSign rfl rfl rfl (by decide +kernel) ⟨Nat.le_of_ble_eq_true rfl, Nat.le_of_ble_eq_true rfl⟩) hK hP hD hS hA rfl hl.1 rfl (Nat.le_of_ble_eq_true rfl) dX6_write_123 ⟨Nat.zero_le _, Nat.zero_le _⟩ (fun _ H locs hP hD hS => ?_)
          have hP : va_P (dC, dI) vwCl (wM hM hR hT hZ cI m_allRows m_allColumns m_rows m_columns m_cells z_m_cursor m_locked m_insert z_m_alarms m_rejects m_latest m_thrown m_streamLong m_at_3 z_m_place z_m_orders m_escaped z_m_broken z_m_signBefore z_m_free m_waitsLong m_cutOff z_m_screen m_stream m_waits) H := hP
          have hD : va_D A (wM hM hR hT hZ cI m_allRows m_allColumns m_rows m_columns m_cells z_m_cursor m_locked m_insert z_m_alarms m_rejects m_latest m_thrown m_streamLong m_at_3 z_m_place z_m_orders m_escaped z_m_broken z_m_signBefore z_m_free m_waitsLong m_cutOff z_m_screen m_stream m_waits) := hD
          refine lv_istore_n (lv' := [(3, .int (b2i (f_X6_isSign  r_3))), (2, .int r_3), (0, .ref hM)]) hx hb dX6_write_126 rfl hl (by decide) rfl (fun ls hl => ?_)
          refine lv_iload_n hx hb dX6_write_127 rfl (lv_at hl 0 rfl) ?_
          refine lv_if_eq (tgt := 139) hx hb dX6_write_128 (by decide) (fun c_5 => ?_) (fun c_5 => ?_)
          · have hf := (if_pos c_5).symm.trans hf
            refine lv_aload_n hx hb dX6_write_139 rfl (lv_at hl 2 rfl) ?_
            refine lv_iload_n hx hb dX6_write_140 rfl (lv_at hl 1 rfl) ?_
            obtain ⟨⟨m_cursor_6, m_at_6, m_place_6, m_orders_6, m_broken_6, m_screen_6⟩, hq_6, hf⟩ := ob_inv hf
            refine my_cVv (As := [.int r_3]) (rest := []) ⟨hx, hb, hml, hown, hts⟩ (c_X6_order l dC dI cI hM hR hT hZ m_allRows m_allColumns m_rows m_columns m_cells z_m_cursor m_locked m_insert z_m_alarms m_rejects m_latest m_thrown m_streamLong m_at_3 z_m_place z_m_orders m_escaped z_m_broken z_m_signBefore z_m_free m_waitsLong m_cutOff z_m_screen m_stream m_waits _ r_3 (m_cursor_6, m_at_6, m_place_6, m_orders_6, m_broken_6, m_screen_6) hq_6) (cwV 1 hts gX6_write_X6_order rfl rfl rfl (by decide +kernel) ⟨Nat.le_of_ble_eq_true rfl, Nat.le_of_ble_eq_true rfl⟩) hK hP hD hS hA 0 7 rfl rfl rfl hl.1 rfl (Nat.le_of_ble_eq_true rfl) dX6_write_141 ⟨Nat.zero_le _, Nat.zero_le _⟩ (fun _ H locs hP hD hS => ?_)
            have hP : va_P (dC, dI) vwCl (wM hM hR hT hZ cI m_allRows m_allColumns m_rows m_columns m_cells m_cursor_6 m_locked m_insert z_m_alarms m_rejects m_latest m_thrown m_streamLong m_at_6 m_place_6 m_orders_6 m_escaped m_broken_6 z_m_signBefore z_m_free m_waitsLong m_cutOff m_screen_6 m_stream m_waits) H := hP
            have hD : va_D A (wM hM hR hT hZ cI m_allRows m_allColumns m_rows m_columns m_cells m_cursor_6 m_locked m_insert z_m_alarms m_rejects m_latest m_thrown m_streamLong m_at_6 m_place_6 m_orders_6 m_escaped m_broken_6 z_m_signBefore z_m_free m_waitsLong m_cutOff m_screen_6 m_stream m_waits) := hD
            refine lv_aload_n hx hb dX6_write_144 rfl (lv_at hl 2 rfl) ?_
            refine lv_iload_n hx hb dX6_write_145 rfl (lv_at hl 0 rfl) ?_
            refine lv_if_ne (tgt := 155) hx hb dX6_write_146 (by decide) (fun c_7 => ?_) (fun c_7 => ?_)
            · have hf := (if_neg c_7).symm.trans hf
              refine lv_iconst (v := 1) hx hb dX6_write_155 (by decide) ?_
              refine lv_goto (tgt := 160) hx hb dX6_write_156 (by decide) ?_
              refine va_put (D := (dC, dI)) (ci := 7) (v := .int 1) (C := RX6) (T := TX6) (N := 25) hx hb hts uu_X6_write_X6 tyX6 tyX6_ok nmX6 hown hK hP hD hS 0 rfl rfl 20 (by decide) (hts (.fieldLink RX6 94 "BlockScreenModel" "signBefore" "Z") (List.mem_of_getElem? (i := 7) rfl)) (fun _ h9 => h9) rfl (tyX6_ok 20 (by decide)) rfl rfl (Nat.le_of_ble_eq_true rfl) dX6_write_160 (fun H locs hP hD hS => ?_)
              have hP : va_P (dC, dI) vwCl (wM hM hR hT hZ cI m_allRows m_allColumns m_rows m_columns m_cells m_cursor_6 m_locked m_insert z_m_alarms m_rejects m_latest m_thrown m_streamLong m_at_6 m_place_6 m_orders_6 m_escaped m_broken_6 true z_m_free m_waitsLong m_cutOff m_screen_6 m_stream m_waits) H := hP
              have hD : va_D A (wM hM hR hT hZ cI m_allRows m_allColumns m_rows m_columns m_cells m_cursor_6 m_locked m_insert z_m_alarms m_rejects m_latest m_thrown m_streamLong m_at_6 m_place_6 m_orders_6 m_escaped m_broken_6 true z_m_free m_waitsLong m_cutOff m_screen_6 m_stream m_waits) := hD
              refine lv_goto (tgt := 99) hx hb dX6_write_163 (by decide) ?_
              exact ih m_cursor_6 z_m_alarms m_at_6 m_place_6 m_orders_6 m_broken_6 true z_m_free m_screen_6 _ _ hf  hP hD hS ls (lv_sub hl [2] rfl)
            · have hf := (if_pos c_7).symm.trans hf
              refine lv_iload_n hx hb dX6_write_149 rfl (lv_at hl 1 rfl) ?_
              refine lv_bipush (v := 8) hx hb dX6_write_150 (by decide) ?_
              refine lv_icmp_ne (tgt := 159) hx hb dX6_write_152 (by decide) (fun c_8 => ?_) (fun c_8 => ?_)
              · have hf := (if_neg c_8).symm.trans hf
                refine lv_iconst (v := 0) hx hb dX6_write_159 (by decide) ?_
                refine va_put (D := (dC, dI)) (ci := 7) (v := .int 0) (C := RX6) (T := TX6) (N := 25) hx hb hts uu_X6_write_X6 tyX6 tyX6_ok nmX6 hown hK hP hD hS 0 rfl rfl 20 (by decide) (hts (.fieldLink RX6 94 "BlockScreenModel" "signBefore" "Z") (List.mem_of_getElem? (i := 7) rfl)) (fun _ h9 => h9) rfl (tyX6_ok 20 (by decide)) rfl rfl (Nat.le_of_ble_eq_true rfl) dX6_write_160 (fun H locs hP hD hS => ?_)
                have hP : va_P (dC, dI) vwCl (wM hM hR hT hZ cI m_allRows m_allColumns m_rows m_columns m_cells m_cursor_6 m_locked m_insert z_m_alarms m_rejects m_latest m_thrown m_streamLong m_at_6 m_place_6 m_orders_6 m_escaped m_broken_6 false z_m_free m_waitsLong m_cutOff m_screen_6 m_stream m_waits) H := hP
                have hD : va_D A (wM hM hR hT hZ cI m_allRows m_allColumns m_rows m_columns m_cells m_cursor_6 m_locked m_insert z_m_alarms m_rejects m_latest m_thrown m_streamLong m_at_6 m_place_6 m_orders_6 m_escaped m_broken_6 false z_m_free m_waitsLong m_cutOff m_screen_6 m_stream m_waits) := hD
                refine lv_goto (tgt := 99) hx hb dX6_write_163 (by decide) ?_
                exact ih m_cursor_6 z_m_alarms m_at_6 m_place_6 m_orders_6 m_broken_6 false z_m_free m_screen_6 _ _ hf  hP hD hS ls (lv_sub hl [2] rfl)
              · have hf := (if_pos c_8).symm.trans hf
                refine lv_iconst (v := 1) hx hb dX6_write_155 (by decide) ?_
                refine lv_goto (tgt := 160) hx hb dX6_write_156 (by decide) ?_
                refine va_put (D := (dC, dI)) (ci := 7) (v := .int 1) (C := RX6) (T := TX6) (N := 25) hx hb hts uu_X6_write_X6 tyX6 tyX6_ok nmX6 hown hK hP hD hS 0 rfl rfl 20 (by decide) (hts (.fieldLink RX6 94 "BlockScreenModel" "signBefore" "Z") (List.mem_of_getElem? (i := 7) rfl)) (fun _ h9 => h9) rfl (tyX6_ok 20 (by decide)) rfl rfl (Nat.le_of_ble_eq_true rfl) dX6_write_160 (fun H locs hP hD hS => ?_)
                have hP : va_P (dC, dI) vwCl (wM hM hR hT hZ cI m_allRows m_allColumns m_rows m_columns m_cells m_cursor_6 m_locked m_insert z_m_alarms m_rejects m_latest m_thrown m_streamLong m_at_6 m_place_6 m_orders_6 m_escaped m_broken_6 true z_m_free m_waitsLong m_cutOff m_screen_6 m_stream m_waits) H := hP
                have hD : va_D A (wM hM hR hT hZ cI m_allRows m_allColumns m_rows m_columns m_cells m_cursor_6 m_locked m_insert z_m_alarms m_rejects m_latest m_thrown m_streamLong m_at_6 m_place_6 m_orders_6 m_escaped m_broken_6 true z_m_free m_waitsLong m_cutOff m_screen_6 m_stream m_waits) := hD
                refine lv_goto (tgt := 99) hx hb dX6_write_163 (by decide) ?_
                exact ih m_cursor_6 z_m_alarms m_at_6 m_place_6 m_orders_6 m_broken_6 true z_m_free m_screen_6 _ _ hf  hP hD hS ls (lv_sub hl [2] rfl)
          · have hf := (if_neg c_5).symm.trans hf
            refine lv_aload_n hx hb dX6_write_131 rfl (lv_at hl 2 rfl) ?_
            refine lv_iload_n hx hb dX6_write_132 rfl (lv_at hl 1 rfl) ?_
            obtain ⟨⟨m_place_9, m_screen_9⟩, hq_9, hf⟩ := ob_inv hf
            refine my_cVv (As := [.int r_3]) (rest := []) ⟨hx, hb, hml, hown, hts⟩ (c_X6_put l dC dI cI hM hR hT hZ m_allRows m_allColumns m_rows m_columns m_cells z_m_cursor m_locked m_insert z_m_alarms m_rejects m_latest m_thrown m_streamLong m_at_3 z_m_place z_m_orders m_escaped z_m_broken z_m_signBefore z_m_free m_waitsLong m_cutOff z_m_screen m_stream m_waits _ r_3 (m_place_9, m_screen_9) hq_9) (cwV 1 hts gX6_write_X6_put rfl rfl rfl (by decide +kernel) ⟨Nat.le_of_ble_eq_true rfl, Nat.le_of_ble_eq_true rfl⟩) hK hP hD hS hA 0 7 rfl rfl rfl hl.1 rfl (Nat.le_of_ble_eq_true rfl) dX6_write_133 ⟨Nat.zero_le _, Nat.zero_le _⟩ (fun _ H locs hP hD hS => ?_)
            have hP : va_P (dC, dI) vwCl (wM hM hR hT hZ cI m_allRows m_allColumns m_rows m_columns m_cells z_m_cursor m_locked m_insert z_m_alarms m_rejects m_latest m_thrown m_streamLong m_at_3 m_place_9 z_m_orders m_escaped z_m_broken z_m_signBefore z_m_free m_waitsLong m_cutOff m_screen_9 m_stream m_waits) H := hP
            have hD : va_D A (wM hM hR hT hZ cI m_allRows m_allColumns m_rows m_columns m_cells z_m_cursor m_locked m_insert z_m_alarms m_rejects m_latest m_thrown m_streamLong m_at_3 m_place_9 z_m_orders m_escaped z_m_broken z_m_signBefore z_m_free m_waitsLong m_cutOff m_screen_9 m_stream m_waits) := hD
            refine lv_goto (tgt := 144) hx hb dX6_write_136 (by decide) ?_
            refine lv_aload_n hx hb dX6_write_144 rfl (lv_at hl 2 rfl) ?_
            refine lv_iload_n hx hb dX6_write_145 rfl (lv_at hl 0 rfl) ?_
            refine lv_if_ne (tgt := 155) hx hb dX6_write_146 (by decide) (fun c_10 => ?_) (fun c_10 => ?_)
            · have hf := (if_neg c_10).symm.trans hf
              refine lv_iconst (v := 1) hx hb dX6_write_155 (by decide) ?_
              refine lv_goto (tgt := 160) hx hb dX6_write_156 (by decide) ?_
              refine va_put (D := (dC, dI)) (ci := 7) (v := .int 1) (C := RX6) (T := TX6) (N := 25) hx hb hts uu_X6_write_X6 tyX6 tyX6_ok nmX6 hown hK hP hD hS 0 rfl rfl 20 (by decide) (hts (.fieldLink RX6 94 "BlockScreenModel" "signBefore" "Z") (List.mem_of_getElem? (i := 7) rfl)) (fun _ h9 => h9) rfl (tyX6_ok 20 (by decide)) rfl rfl (Nat.le_of_ble_eq_true rfl) dX6_write_160 (fun H locs hP hD hS => ?_)
              have hP : va_P (dC, dI) vwCl (wM hM hR hT hZ cI m_allRows m_allColumns m_rows m_columns m_cells z_m_cursor m_locked m_insert z_m_alarms m_rejects m_latest m_thrown m_streamLong m_at_3 m_place_9 z_m_orders m_escaped z_m_broken true z_m_free m_waitsLong m_cutOff m_screen_9 m_stream m_waits) H := hP
              have hD : va_D A (wM hM hR hT hZ cI m_allRows m_allColumns m_rows m_columns m_cells z_m_cursor m_locked m_insert z_m_alarms m_rejects m_latest m_thrown m_streamLong m_at_3 m_place_9 z_m_orders m_escaped z_m_broken true z_m_free m_waitsLong m_cutOff m_screen_9 m_stream m_waits) := hD
              refine lv_goto (tgt := 99) hx hb dX6_write_163 (by decide) ?_
              exact ih z_m_cursor z_m_alarms m_at_3 m_place_9 z_m_orders z_m_broken true z_m_free m_screen_9 _ _ hf  hP hD hS ls (lv_sub hl [2] rfl)
            · have hf := (if_pos c_10).symm.trans hf
              refine lv_iload_n hx hb dX6_write_149 rfl (lv_at hl 1 rfl) ?_
              refine lv_bipush (v := 8) hx hb dX6_write_150 (by decide) ?_
              refine lv_icmp_ne (tgt := 159) hx hb dX6_write_152 (by decide) (fun c_11 => ?_) (fun c_11 => ?_)
              · have hf := (if_neg c_11).symm.trans hf
                refine lv_iconst (v := 0) hx hb dX6_write_159 (by decide) ?_
                refine va_put (D := (dC, dI)) (ci := 7) (v := .int 0) (C := RX6) (T := TX6) (N := 25) hx hb hts uu_X6_write_X6 tyX6 tyX6_ok nmX6 hown hK hP hD hS 0 rfl rfl 20 (by decide) (hts (.fieldLink RX6 94 "BlockScreenModel" "signBefore" "Z") (List.mem_of_getElem? (i := 7) rfl)) (fun _ h9 => h9) rfl (tyX6_ok 20 (by decide)) rfl rfl (Nat.le_of_ble_eq_true rfl) dX6_write_160 (fun H locs hP hD hS => ?_)
                have hP : va_P (dC, dI) vwCl (wM hM hR hT hZ cI m_allRows m_allColumns m_rows m_columns m_cells z_m_cursor m_locked m_insert z_m_alarms m_rejects m_latest m_thrown m_streamLong m_at_3 m_place_9 z_m_orders m_escaped z_m_broken false z_m_free m_waitsLong m_cutOff m_screen_9 m_stream m_waits) H := hP
                have hD : va_D A (wM hM hR hT hZ cI m_allRows m_allColumns m_rows m_columns m_cells z_m_cursor m_locked m_insert z_m_alarms m_rejects m_latest m_thrown m_streamLong m_at_3 m_place_9 z_m_orders m_escaped z_m_broken false z_m_free m_waitsLong m_cutOff m_screen_9 m_stream m_waits) := hD
                refine lv_goto (tgt := 99) hx hb dX6_write_163 (by decide) ?_
                exact ih z_m_cursor z_m_alarms m_at_3 m_place_9 z_m_orders z_m_broken false z_m_free m_screen_9 _ _ hf  hP hD hS ls (lv_sub hl [2] rfl)
              · have hf := (if_pos c_11).symm.trans hf
                refine lv_iconst (v := 1) hx hb dX6_write_155 (by decide) ?_
                refine lv_goto (tgt := 160) hx hb dX6_write_156 (by decide) ?_
                refine va_put (D := (dC, dI)) (ci := 7) (v := .int 1) (C := RX6) (T := TX6) (N := 25) hx hb hts uu_X6_write_X6 tyX6 tyX6_ok nmX6 hown hK hP hD hS 0 rfl rfl 20 (by decide) (hts (.fieldLink RX6 94 "BlockScreenModel" "signBefore" "Z") (List.mem_of_getElem? (i := 7) rfl)) (fun _ h9 => h9) rfl (tyX6_ok 20 (by decide)) rfl rfl (Nat.le_of_ble_eq_true rfl) dX6_write_160 (fun H locs hP hD hS => ?_)
                have hP : va_P (dC, dI) vwCl (wM hM hR hT hZ cI m_allRows m_allColumns m_rows m_columns m_cells z_m_cursor m_locked m_insert z_m_alarms m_rejects m_latest m_thrown m_streamLong m_at_3 m_place_9 z_m_orders m_escaped z_m_broken true z_m_free m_waitsLong m_cutOff m_screen_9 m_stream m_waits) H := hP
                have hD : va_D A (wM hM hR hT hZ cI m_allRows m_allColumns m_rows m_columns m_cells z_m_cursor m_locked m_insert z_m_alarms m_rejects m_latest m_thrown m_streamLong m_at_3 m_place_9 z_m_orders m_escaped z_m_broken true z_m_free m_waitsLong m_cutOff m_screen_9 m_stream m_waits) := hD
                refine lv_goto (tgt := 99) hx hb dX6_write_163 (by decide) ?_
                exact ih z_m_cursor z_m_alarms m_at_3 m_place_9 z_m_orders z_m_broken true z_m_free m_screen_9 _ _ hf  hP hD hS ls (lv_sub hl [2] rfl)
  have L55 : ∀ (v1 : Int32) (z_m_cursor : Int32) (z_m_alarms : Int32) (z_m_at : Int32) (z_m_place : Int32) (z_m_orders : Int32) (z_m_broken : Bool) (z_m_signBefore : Bool) (z_m_free : Bool) (z_m_screen : Nat → Int32) (H : Heap) (locs : List Loc), f_X6_write_L55 m_cells m_streamLong m_stream v1 z_m_cursor z_m_alarms z_m_at z_m_place z_m_orders z_m_broken z_m_signBefore z_m_free z_m_screen = some res → va_P (dC, dI) vwCl (wM hM hR hT hZ cI m_allRows m_allColumns m_rows m_columns m_cells z_m_cursor m_locked m_insert z_m_alarms m_rejects m_latest m_thrown m_streamLong z_m_at z_m_place z_m_orders m_escaped z_m_broken z_m_signBefore z_m_free m_waitsLong m_cutOff z_m_screen m_stream m_waits) H → va_D A (wM hM hR hT hZ cI m_allRows m_allColumns m_rows m_columns m_cells z_m_cursor m_locked m_insert z_m_alarms m_rejects m_latest m_thrown m_streamLong z_m_at z_m_place z_m_orders m_escaped z_m_broken z_m_signBefore z_m_free m_waitsLong m_cutOff z_m_screen m_stream m_waits) → va_S A s.heap H locs → ∀ (ls : Array Slot), lv_has ls 4 [(0, .ref hM), (1, .int v1)] → W p l e (headSpec wsX6_write ({ frames := 7, cells := 0, slots := 0, locals := 155 })).room s m ([.ref hM] : List Value).toArray below meth c H locs 0 0 (MQ below (my_Qv (S := Unit) (dC, dI) [(cI, .int)] (fun _ => wM hM hR hT hZ cI m_allRows m_allColumns m_rows m_columns m_cells res.1 m_locked m_insert res.2.1 m_rejects m_latest m_thrown m_streamLong res.2.2.1 res.2.2.2.1 res.2.2.2.2.1 m_escaped res.2.2.2.2.2.1 res.2.2.2.2.2.2.1 res.2.2.2.2.2.2.2.1 m_waitsLong m_cutOff res.2.2.2.2.2.2.2.2 m_stream m_waits) A) ([.ref hM] : List Value).toArray s 0 0 A) (F0 m 55 ls []) := by
    intro v1 z_m_cursor z_m_alarms z_m_at z_m_place z_m_orders z_m_broken z_m_signBefore z_m_free z_m_screen H locs hf  hP hD hS ls hl
    unfold f_X6_write_L55 at hf
    refine lv_aload_n hx hb dX6_write_55 rfl (lv_at hl 0 rfl) ?_
    refine lv_iload_n hx hb dX6_write_56 rfl (lv_at hl 1 rfl) ?_
    refine lv_iconst (v := 2) hx hb dX6_write_57 (by decide) ?_
    refine lv_iand hx hb dX6_write_58 ?_
    refine lv_if_eq (tgt := 66) hx hb dX6_write_59 (by decide) (fun c_12 => ?_) (fun c_12 => ?_)
    · have hf := (if_pos c_12).symm.trans hf
      refine lv_iconst (v := 0) hx hb dX6_write_66 (by decide) ?_
      refine va_put (D := (dC, dI)) (ci := 7) (v := .int 0) (C := RX6) (T := TX6) (N := 25) hx hb hts uu_X6_write_X6 tyX6 tyX6_ok nmX6 hown hK hP hD hS 0 rfl rfl 21 (by decide) (hts (.fieldLink RX6 128 "BlockScreenModel" "free" "Z") (List.mem_of_getElem? (i := 3) rfl)) (fun _ h9 => h9) rfl (tyX6_ok 21 (by decide)) rfl rfl (Nat.le_of_ble_eq_true rfl) dX6_write_67 (fun H locs hP hD hS => ?_)
      have hP : va_P (dC, dI) vwCl (wM hM hR hT hZ cI m_allRows m_allColumns m_rows m_columns m_cells z_m_cursor m_locked m_insert z_m_alarms m_rejects m_latest m_thrown m_streamLong z_m_at z_m_place z_m_orders m_escaped z_m_broken z_m_signBefore false m_waitsLong m_cutOff z_m_screen m_stream m_waits) H := hP
      have hD : va_D A (wM hM hR hT hZ cI m_allRows m_allColumns m_rows m_columns m_cells z_m_cursor m_locked m_insert z_m_alarms m_rejects m_latest m_thrown m_streamLong z_m_at z_m_place z_m_orders m_escaped z_m_broken z_m_signBefore false m_waitsLong m_cutOff z_m_screen m_stream m_waits) := hD
      refine lv_iload_n hx hb dX6_write_70 rfl (lv_at hl 1 rfl) ?_
      refine lv_iconst (v := 4) hx hb dX6_write_71 (by decide) ?_
      refine lv_iand hx hb dX6_write_72 ?_
      refine lv_if_eq (tgt := 86) hx hb dX6_write_73 (by decide) (fun c_13 => ?_) (fun c_13 => ?_)
      · have hf := (if_pos c_13).symm.trans hf
        refine lv_aload_n hx hb dX6_write_86 rfl (lv_at hl 0 rfl) ?_
        refine lv_aload_n hx hb dX6_write_87 rfl (lv_at hl 0 rfl) ?_
        refine va_get (D := (dC, dI)) (ci := 7) (v := .int z_m_cursor) (C := RX6) (T := TX6) (N := 25) hx hb hts uu_X6_write_X6 hown hK hP 0 rfl rfl 5 (by decide) (hts (.fieldLink RX6 49 "BlockScreenModel" "cursor" "I") (List.mem_of_getElem? (i := 5) rfl)) (fun _ h9 => h9) rfl dX6_write_88 ?_
        refine va_put (D := (dC, dI)) (ci := 7) (v := .int z_m_cursor) (C := RX6) (T := TX6) (N := 25) hx hb hts uu_X6_write_X6 tyX6 tyX6_ok nmX6 hown hK hP hD hS 0 rfl rfl 16 (by decide) (hts (.fieldLink RX6 85 "BlockScreenModel" "place" "I") (List.mem_of_getElem? (i := 6) rfl)) (fun _ h9 => h9) rfl (tyX6_ok 16 (by decide)) rfl rfl (Nat.le_of_ble_eq_true rfl) dX6_write_91 (fun H locs hP hD hS => ?_)
        have hP : va_P (dC, dI) vwCl (wM hM hR hT hZ cI m_allRows m_allColumns m_rows m_columns m_cells z_m_cursor m_locked m_insert z_m_alarms m_rejects m_latest m_thrown m_streamLong z_m_at z_m_cursor z_m_orders m_escaped z_m_broken z_m_signBefore false m_waitsLong m_cutOff z_m_screen m_stream m_waits) H := hP
        have hD : va_D A (wM hM hR hT hZ cI m_allRows m_allColumns m_rows m_columns m_cells z_m_cursor m_locked m_insert z_m_alarms m_rejects m_latest m_thrown m_streamLong z_m_at z_m_cursor z_m_orders m_escaped z_m_broken z_m_signBefore false m_waitsLong m_cutOff z_m_screen m_stream m_waits) := hD
        refine lv_aload_n hx hb dX6_write_94 rfl (lv_at hl 0 rfl) ?_
        refine lv_iconst (v := 0) hx hb dX6_write_95 (by decide) ?_
        refine va_put (D := (dC, dI)) (ci := 7) (v := .int 0) (C := RX6) (T := TX6) (N := 25) hx hb hts uu_X6_write_X6 tyX6 tyX6_ok nmX6 hown hK hP hD hS 0 rfl rfl 20 (by decide) (hts (.fieldLink RX6 94 "BlockScreenModel" "signBefore" "Z") (List.mem_of_getElem? (i := 7) rfl)) (fun _ h9 => h9) rfl (tyX6_ok 20 (by decide)) rfl rfl (Nat.le_of_ble_eq_true rfl) dX6_write_96 (fun H locs hP hD hS => ?_)
        have hP : va_P (dC, dI) vwCl (wM hM hR hT hZ cI m_allRows m_allColumns m_rows m_columns m_cells z_m_cursor m_locked m_insert z_m_alarms m_rejects m_latest m_thrown m_streamLong z_m_at z_m_cursor z_m_orders m_escaped z_m_broken false false m_waitsLong m_cutOff z_m_screen m_stream m_waits) H := hP
        have hD : va_D A (wM hM hR hT hZ cI m_allRows m_allColumns m_rows m_columns m_cells z_m_cursor m_locked m_insert z_m_alarms m_rejects m_latest m_thrown m_streamLong z_m_at z_m_cursor z_m_orders m_escaped z_m_broken false false m_waitsLong m_cutOff z_m_screen m_stream m_waits) := hD
        exact L99 FU z_m_cursor z_m_alarms z_m_at z_m_cursor z_m_orders z_m_broken false false z_m_screen _ _ hf  hP hD hS ls (lv_sub hl [0] rfl)
      · have hf := (if_neg c_13).symm.trans hf
        refine lv_aload_n hx hb dX6_write_76 rfl (lv_at hl 0 rfl) ?_
        refine lv_dup hx hb dX6_write_77 rfl ?_
        refine va_get (D := (dC, dI)) (ci := 7) (v := .int z_m_alarms) (C := RX6) (T := TX6) (N := 25) hx hb hts uu_X6_write_X6 hown hK hP 0 rfl rfl 9 (by decide) (hts (.fieldLink RX6 131 "BlockScreenModel" "alarms" "I") (List.mem_of_getElem? (i := 4) rfl)) (fun _ h9 => h9) rfl dX6_write_78 ?_
        refine lv_iconst (v := 1) hx hb dX6_write_81 (by decide) ?_
        refine lv_iadd hx hb dX6_write_82 ?_
        refine va_put (D := (dC, dI)) (ci := 7) (v := .int (z_m_alarms + 1)) (C := RX6) (T := TX6) (N := 25) hx hb hts uu_X6_write_X6 tyX6 tyX6_ok nmX6 hown hK hP hD hS 0 rfl rfl 9 (by decide) (hts (.fieldLink RX6 131 "BlockScreenModel" "alarms" "I") (List.mem_of_getElem? (i := 4) rfl)) (fun _ h9 => h9) rfl (tyX6_ok 9 (by decide)) rfl rfl (Nat.le_of_ble_eq_true rfl) dX6_write_83 (fun H locs hP hD hS => ?_)
        have hP : va_P (dC, dI) vwCl (wM hM hR hT hZ cI m_allRows m_allColumns m_rows m_columns m_cells z_m_cursor m_locked m_insert (z_m_alarms + 1) m_rejects m_latest m_thrown m_streamLong z_m_at z_m_place z_m_orders m_escaped z_m_broken z_m_signBefore false m_waitsLong m_cutOff z_m_screen m_stream m_waits) H := hP
        have hD : va_D A (wM hM hR hT hZ cI m_allRows m_allColumns m_rows m_columns m_cells z_m_cursor m_locked m_insert (z_m_alarms + 1) m_rejects m_latest m_thrown m_streamLong z_m_at z_m_place z_m_orders m_escaped z_m_broken z_m_signBefore false m_waitsLong m_cutOff z_m_screen m_stream m_waits) := hD
        refine lv_aload_n hx hb dX6_write_86 rfl (lv_at hl 0 rfl) ?_
        refine lv_aload_n hx hb dX6_write_87 rfl (lv_at hl 0 rfl) ?_
        refine va_get (D := (dC, dI)) (ci := 7) (v := .int z_m_cursor) (C := RX6) (T := TX6) (N := 25) hx hb hts uu_X6_write_X6 hown hK hP 0 rfl rfl 5 (by decide) (hts (.fieldLink RX6 49 "BlockScreenModel" "cursor" "I") (List.mem_of_getElem? (i := 5) rfl)) (fun _ h9 => h9) rfl dX6_write_88 ?_
        refine va_put (D := (dC, dI)) (ci := 7) (v := .int z_m_cursor) (C := RX6) (T := TX6) (N := 25) hx hb hts uu_X6_write_X6 tyX6 tyX6_ok nmX6 hown hK hP hD hS 0 rfl rfl 16 (by decide) (hts (.fieldLink RX6 85 "BlockScreenModel" "place" "I") (List.mem_of_getElem? (i := 6) rfl)) (fun _ h9 => h9) rfl (tyX6_ok 16 (by decide)) rfl rfl (Nat.le_of_ble_eq_true rfl) dX6_write_91 (fun H locs hP hD hS => ?_)
        have hP : va_P (dC, dI) vwCl (wM hM hR hT hZ cI m_allRows m_allColumns m_rows m_columns m_cells z_m_cursor m_locked m_insert (z_m_alarms + 1) m_rejects m_latest m_thrown m_streamLong z_m_at z_m_cursor z_m_orders m_escaped z_m_broken z_m_signBefore false m_waitsLong m_cutOff z_m_screen m_stream m_waits) H := hP
        have hD : va_D A (wM hM hR hT hZ cI m_allRows m_allColumns m_rows m_columns m_cells z_m_cursor m_locked m_insert (z_m_alarms + 1) m_rejects m_latest m_thrown m_streamLong z_m_at z_m_cursor z_m_orders m_escaped z_m_broken z_m_signBefore false m_waitsLong m_cutOff z_m_screen m_stream m_waits) := hD
        refine lv_aload_n hx hb dX6_write_94 rfl (lv_at hl 0 rfl) ?_
        refine lv_iconst (v := 0) hx hb dX6_write_95 (by decide) ?_
        refine va_put (D := (dC, dI)) (ci := 7) (v := .int 0) (C := RX6) (T := TX6) (N := 25) hx hb hts uu_X6_write_X6 tyX6 tyX6_ok nmX6 hown hK hP hD hS 0 rfl rfl 20 (by decide) (hts (.fieldLink RX6 94 "BlockScreenModel" "signBefore" "Z") (List.mem_of_getElem? (i := 7) rfl)) (fun _ h9 => h9) rfl (tyX6_ok 20 (by decide)) rfl rfl (Nat.le_of_ble_eq_true rfl) dX6_write_96 (fun H locs hP hD hS => ?_)
        have hP : va_P (dC, dI) vwCl (wM hM hR hT hZ cI m_allRows m_allColumns m_rows m_columns m_cells z_m_cursor m_locked m_insert (z_m_alarms + 1) m_rejects m_latest m_thrown m_streamLong z_m_at z_m_cursor z_m_orders m_escaped z_m_broken false false m_waitsLong m_cutOff z_m_screen m_stream m_waits) H := hP
        have hD : va_D A (wM hM hR hT hZ cI m_allRows m_allColumns m_rows m_columns m_cells z_m_cursor m_locked m_insert (z_m_alarms + 1) m_rejects m_latest m_thrown m_streamLong z_m_at z_m_cursor z_m_orders m_escaped z_m_broken false false m_waitsLong m_cutOff z_m_screen m_stream m_waits) := hD
        exact L99 FU z_m_cursor (z_m_alarms + 1) z_m_at z_m_cursor z_m_orders z_m_broken false false z_m_screen _ _ hf  hP hD hS ls (lv_sub hl [0] rfl)
    · have hf := (if_neg c_12).symm.trans hf
      refine lv_iconst (v := 1) hx hb dX6_write_62 (by decide) ?_
      refine lv_goto (tgt := 67) hx hb dX6_write_63 (by decide) ?_
      refine va_put (D := (dC, dI)) (ci := 7) (v := .int 1) (C := RX6) (T := TX6) (N := 25) hx hb hts uu_X6_write_X6 tyX6 tyX6_ok nmX6 hown hK hP hD hS 0 rfl rfl 21 (by decide) (hts (.fieldLink RX6 128 "BlockScreenModel" "free" "Z") (List.mem_of_getElem? (i := 3) rfl)) (fun _ h9 => h9) rfl (tyX6_ok 21 (by decide)) rfl rfl (Nat.le_of_ble_eq_true rfl) dX6_write_67 (fun H locs hP hD hS => ?_)
      have hP : va_P (dC, dI) vwCl (wM hM hR hT hZ cI m_allRows m_allColumns m_rows m_columns m_cells z_m_cursor m_locked m_insert z_m_alarms m_rejects m_latest m_thrown m_streamLong z_m_at z_m_place z_m_orders m_escaped z_m_broken z_m_signBefore true m_waitsLong m_cutOff z_m_screen m_stream m_waits) H := hP
      have hD : va_D A (wM hM hR hT hZ cI m_allRows m_allColumns m_rows m_columns m_cells z_m_cursor m_locked m_insert z_m_alarms m_rejects m_latest m_thrown m_streamLong z_m_at z_m_place z_m_orders m_escaped z_m_broken z_m_signBefore true m_waitsLong m_cutOff z_m_screen m_stream m_waits) := hD
      refine lv_iload_n hx hb dX6_write_70 rfl (lv_at hl 1 rfl) ?_
      refine lv_iconst (v := 4) hx hb dX6_write_71 (by decide) ?_
      refine lv_iand hx hb dX6_write_72 ?_
      refine lv_if_eq (tgt := 86) hx hb dX6_write_73 (by decide) (fun c_14 => ?_) (fun c_14 => ?_)
      · have hf := (if_pos c_14).symm.trans hf
        refine lv_aload_n hx hb dX6_write_86 rfl (lv_at hl 0 rfl) ?_
        refine lv_aload_n hx hb dX6_write_87 rfl (lv_at hl 0 rfl) ?_
        refine va_get (D := (dC, dI)) (ci := 7) (v := .int z_m_cursor) (C := RX6) (T := TX6) (N := 25) hx hb hts uu_X6_write_X6 hown hK hP 0 rfl rfl 5 (by decide) (hts (.fieldLink RX6 49 "BlockScreenModel" "cursor" "I") (List.mem_of_getElem? (i := 5) rfl)) (fun _ h9 => h9) rfl dX6_write_88 ?_
        refine va_put (D := (dC, dI)) (ci := 7) (v := .int z_m_cursor) (C := RX6) (T := TX6) (N := 25) hx hb hts uu_X6_write_X6 tyX6 tyX6_ok nmX6 hown hK hP hD hS 0 rfl rfl 16 (by decide) (hts (.fieldLink RX6 85 "BlockScreenModel" "place" "I") (List.mem_of_getElem? (i := 6) rfl)) (fun _ h9 => h9) rfl (tyX6_ok 16 (by decide)) rfl rfl (Nat.le_of_ble_eq_true rfl) dX6_write_91 (fun H locs hP hD hS => ?_)
        have hP : va_P (dC, dI) vwCl (wM hM hR hT hZ cI m_allRows m_allColumns m_rows m_columns m_cells z_m_cursor m_locked m_insert z_m_alarms m_rejects m_latest m_thrown m_streamLong z_m_at z_m_cursor z_m_orders m_escaped z_m_broken z_m_signBefore true m_waitsLong m_cutOff z_m_screen m_stream m_waits) H := hP
        have hD : va_D A (wM hM hR hT hZ cI m_allRows m_allColumns m_rows m_columns m_cells z_m_cursor m_locked m_insert z_m_alarms m_rejects m_latest m_thrown m_streamLong z_m_at z_m_cursor z_m_orders m_escaped z_m_broken z_m_signBefore true m_waitsLong m_cutOff z_m_screen m_stream m_waits) := hD
        refine lv_aload_n hx hb dX6_write_94 rfl (lv_at hl 0 rfl) ?_
        refine lv_iconst (v := 0) hx hb dX6_write_95 (by decide) ?_
        refine va_put (D := (dC, dI)) (ci := 7) (v := .int 0) (C := RX6) (T := TX6) (N := 25) hx hb hts uu_X6_write_X6 tyX6 tyX6_ok nmX6 hown hK hP hD hS 0 rfl rfl 20 (by decide) (hts (.fieldLink RX6 94 "BlockScreenModel" "signBefore" "Z") (List.mem_of_getElem? (i := 7) rfl)) (fun _ h9 => h9) rfl (tyX6_ok 20 (by decide)) rfl rfl (Nat.le_of_ble_eq_true rfl) dX6_write_96 (fun H locs hP hD hS => ?_)
        have hP : va_P (dC, dI) vwCl (wM hM hR hT hZ cI m_allRows m_allColumns m_rows m_columns m_cells z_m_cursor m_locked m_insert z_m_alarms m_rejects m_latest m_thrown m_streamLong z_m_at z_m_cursor z_m_orders m_escaped z_m_broken false true m_waitsLong m_cutOff z_m_screen m_stream m_waits) H := hP
        have hD : va_D A (wM hM hR hT hZ cI m_allRows m_allColumns m_rows m_columns m_cells z_m_cursor m_locked m_insert z_m_alarms m_rejects m_latest m_thrown m_streamLong z_m_at z_m_cursor z_m_orders m_escaped z_m_broken false true m_waitsLong m_cutOff z_m_screen m_stream m_waits) := hD
        exact L99 FU z_m_cursor z_m_alarms z_m_at z_m_cursor z_m_orders z_m_broken false true z_m_screen _ _ hf  hP hD hS ls (lv_sub hl [0] rfl)
      · have hf := (if_neg c_14).symm.trans hf
        refine lv_aload_n hx hb dX6_write_76 rfl (lv_at hl 0 rfl) ?_
        refine lv_dup hx hb dX6_write_77 rfl ?_
        refine va_get (D := (dC, dI)) (ci := 7) (v := .int z_m_alarms) (C := RX6) (T := TX6) (N := 25) hx hb hts uu_X6_write_X6 hown hK hP 0 rfl rfl 9 (by decide) (hts (.fieldLink RX6 131 "BlockScreenModel" "alarms" "I") (List.mem_of_getElem? (i := 4) rfl)) (fun _ h9 => h9) rfl dX6_write_78 ?_
        refine lv_iconst (v := 1) hx hb dX6_write_81 (by decide) ?_
        refine lv_iadd hx hb dX6_write_82 ?_
        refine va_put (D := (dC, dI)) (ci := 7) (v := .int (z_m_alarms + 1)) (C := RX6) (T := TX6) (N := 25) hx hb hts uu_X6_write_X6 tyX6 tyX6_ok nmX6 hown hK hP hD hS 0 rfl rfl 9 (by decide) (hts (.fieldLink RX6 131 "BlockScreenModel" "alarms" "I") (List.mem_of_getElem? (i := 4) rfl)) (fun _ h9 => h9) rfl (tyX6_ok 9 (by decide)) rfl rfl (Nat.le_of_ble_eq_true rfl) dX6_write_83 (fun H locs hP hD hS => ?_)
        have hP : va_P (dC, dI) vwCl (wM hM hR hT hZ cI m_allRows m_allColumns m_rows m_columns m_cells z_m_cursor m_locked m_insert (z_m_alarms + 1) m_rejects m_latest m_thrown m_streamLong z_m_at z_m_place z_m_orders m_escaped z_m_broken z_m_signBefore true m_waitsLong m_cutOff z_m_screen m_stream m_waits) H := hP
        have hD : va_D A (wM hM hR hT hZ cI m_allRows m_allColumns m_rows m_columns m_cells z_m_cursor m_locked m_insert (z_m_alarms + 1) m_rejects m_latest m_thrown m_streamLong z_m_at z_m_place z_m_orders m_escaped z_m_broken z_m_signBefore true m_waitsLong m_cutOff z_m_screen m_stream m_waits) := hD
        refine lv_aload_n hx hb dX6_write_86 rfl (lv_at hl 0 rfl) ?_
        refine lv_aload_n hx hb dX6_write_87 rfl (lv_at hl 0 rfl) ?_
        refine va_get (D := (dC, dI)) (ci := 7) (v := .int z_m_cursor) (C := RX6) (T := TX6) (N := 25) hx hb hts uu_X6_write_X6 hown hK hP 0 rfl rfl 5 (by decide) (hts (.fieldLink RX6 49 "BlockScreenModel" "cursor" "I") (List.mem_of_getElem? (i := 5) rfl)) (fun _ h9 => h9) rfl dX6_write_88 ?_
        refine va_put (D := (dC, dI)) (ci := 7) (v := .int z_m_cursor) (C := RX6) (T := TX6) (N := 25) hx hb hts uu_X6_write_X6 tyX6 tyX6_ok nmX6 hown hK hP hD hS 0 rfl rfl 16 (by decide) (hts (.fieldLink RX6 85 "BlockScreenModel" "place" "I") (List.mem_of_getElem? (i := 6) rfl)) (fun _ h9 => h9) rfl (tyX6_ok 16 (by decide)) rfl rfl (Nat.le_of_ble_eq_true rfl) dX6_write_91 (fun H locs hP hD hS => ?_)
        have hP : va_P (dC, dI) vwCl (wM hM hR hT hZ cI m_allRows m_allColumns m_rows m_columns m_cells z_m_cursor m_locked m_insert (z_m_alarms + 1) m_rejects m_latest m_thrown m_streamLong z_m_at z_m_cursor z_m_orders m_escaped z_m_broken z_m_signBefore true m_waitsLong m_cutOff z_m_screen m_stream m_waits) H := hP
        have hD : va_D A (wM hM hR hT hZ cI m_allRows m_allColumns m_rows m_columns m_cells z_m_cursor m_locked m_insert (z_m_alarms + 1) m_rejects m_latest m_thrown m_streamLong z_m_at z_m_cursor z_m_orders m_escaped z_m_broken z_m_signBefore true m_waitsLong m_cutOff z_m_screen m_stream m_waits) := hD
        refine lv_aload_n hx hb dX6_write_94 rfl (lv_at hl 0 rfl) ?_
        refine lv_iconst (v := 0) hx hb dX6_write_95 (by decide) ?_
        refine va_put (D := (dC, dI)) (ci := 7) (v := .int 0) (C := RX6) (T := TX6) (N := 25) hx hb hts uu_X6_write_X6 tyX6 tyX6_ok nmX6 hown hK hP hD hS 0 rfl rfl 20 (by decide) (hts (.fieldLink RX6 94 "BlockScreenModel" "signBefore" "Z") (List.mem_of_getElem? (i := 7) rfl)) (fun _ h9 => h9) rfl (tyX6_ok 20 (by decide)) rfl rfl (Nat.le_of_ble_eq_true rfl) dX6_write_96 (fun H locs hP hD hS => ?_)
        have hP : va_P (dC, dI) vwCl (wM hM hR hT hZ cI m_allRows m_allColumns m_rows m_columns m_cells z_m_cursor m_locked m_insert (z_m_alarms + 1) m_rejects m_latest m_thrown m_streamLong z_m_at z_m_cursor z_m_orders m_escaped z_m_broken false true m_waitsLong m_cutOff z_m_screen m_stream m_waits) H := hP
        have hD : va_D A (wM hM hR hT hZ cI m_allRows m_allColumns m_rows m_columns m_cells z_m_cursor m_locked m_insert (z_m_alarms + 1) m_rejects m_latest m_thrown m_streamLong z_m_at z_m_cursor z_m_orders m_escaped z_m_broken false true m_waitsLong m_cutOff z_m_screen m_stream m_waits) := hD
        exact L99 FU z_m_cursor (z_m_alarms + 1) z_m_at z_m_cursor z_m_orders z_m_broken false true z_m_screen _ _ hf  hP hD hS ls (lv_sub hl [0] rfl)
  have L22 : ∀ (fu : Nat) (v1 : Int32) (v2 : Int32) (z_m_cursor : Int32) (z_m_alarms : Int32) (z_m_at : Int32) (z_m_place : Int32) (z_m_orders : Int32) (z_m_broken : Bool) (z_m_signBefore : Bool) (z_m_free : Bool) (z_m_screen : Nat → Int32)  (H : Heap) (locs : List Loc), f_X6_write_L22 m_cells m_streamLong m_stream fu v1 v2 z_m_cursor z_m_alarms z_m_at z_m_place z_m_orders z_m_broken z_m_signBefore z_m_free z_m_screen = some res → va_P (dC, dI) vwCl (wM hM hR hT hZ cI m_allRows m_allColumns m_rows m_columns m_cells z_m_cursor m_locked m_insert z_m_alarms m_rejects m_latest m_thrown m_streamLong z_m_at z_m_place z_m_orders m_escaped z_m_broken z_m_signBefore z_m_free m_waitsLong m_cutOff z_m_screen m_stream m_waits) H → va_D A (wM hM hR hT hZ cI m_allRows m_allColumns m_rows m_columns m_cells z_m_cursor m_locked m_insert z_m_alarms m_rejects m_latest m_thrown m_streamLong z_m_at z_m_place z_m_orders m_escaped z_m_broken z_m_signBefore z_m_free m_waitsLong m_cutOff z_m_screen m_stream m_waits) → va_S A s.heap H locs → ∀ (ls : Array Slot), lv_has ls 4 [(0, .ref hM), (1, .int v1), (2, .int v2)] → W p l e (headSpec wsX6_write ({ frames := 7, cells := 0, slots := 0, locals := 155 })).room s m ([.ref hM] : List Value).toArray below meth c H locs 0 0 (MQ below (my_Qv (S := Unit) (dC, dI) [(cI, .int)] (fun _ => wM hM hR hT hZ cI m_allRows m_allColumns m_rows m_columns m_cells res.1 m_locked m_insert res.2.1 m_rejects m_latest m_thrown m_streamLong res.2.2.1 res.2.2.2.1 res.2.2.2.2.1 m_escaped res.2.2.2.2.2.1 res.2.2.2.2.2.2.1 res.2.2.2.2.2.2.2.1 m_waitsLong m_cutOff res.2.2.2.2.2.2.2.2 m_stream m_waits) A) ([.ref hM] : List Value).toArray s 0 0 A) (F0 m 22 ls []) := by
    intro fu
    induction fu with
    | zero =>
      intro v1 v2 z_m_cursor z_m_alarms z_m_at z_m_place z_m_orders z_m_broken z_m_signBefore z_m_free z_m_screen H locs hf
      rw [f_X6_write_L22.eq_1] at hf
      cases hf
    | succ fu ih =>
      intro v1 v2 z_m_cursor z_m_alarms z_m_at z_m_place z_m_orders z_m_broken z_m_signBefore z_m_free z_m_screen H locs hf  hP hD hS ls hl
      rw [f_X6_write_L22.eq_2] at hf
      refine lv_iload_n hx hb dX6_write_22 rfl (lv_at hl 2 rfl) ?_
      refine lv_aload_n hx hb dX6_write_23 rfl (lv_at hl 0 rfl) ?_
      refine va_get (D := (dC, dI)) (ci := 7) (v := .int m_cells) (C := RX6) (T := TX6) (N := 25) hx hb hts uu_X6_write_X6 hown hK hP 0 rfl rfl 4 (by decide) (hts (.fieldLink RX6 46 "BlockScreenModel" "cells" "I") (List.mem_of_getElem? (i := 1) rfl)) (fun _ h9 => h9) rfl dX6_write_24 ?_
      refine lv_icmp_ge (tgt := 55) hx hb dX6_write_27 (by decide) (fun c_15 => ?_) (fun c_15 => ?_)
      · have hf := (if_pos c_15).symm.trans hf
        exact L55  v1 z_m_cursor z_m_alarms z_m_at z_m_place z_m_orders z_m_broken z_m_signBefore z_m_free z_m_screen _ _ hf  hP hD hS ls (lv_sub hl [0, 1] rfl)
      · have hf := (if_neg c_15).symm.trans hf
        refine lv_aload_n hx hb dX6_write_30 rfl (lv_at hl 0 rfl) ?_
        refine lv_iload_n hx hb dX6_write_31 rfl (lv_at hl 2 rfl) ?_
        obtain ⟨r_16, hq_16, hf⟩ := ob_inv hf
        refine my_cVi (As := [.int v2]) (rest := []) ⟨hx, hb, hml, hown, hts⟩ (c_X6_isAttribute l dC dI cI hM hR hT hZ m_allRows m_allColumns m_rows m_columns m_cells z_m_cursor m_locked m_insert z_m_alarms m_rejects m_latest m_thrown m_streamLong z_m_at z_m_place z_m_orders m_escaped z_m_broken z_m_signBefore z_m_free m_waitsLong m_cutOff z_m_screen m_stream m_waits _ v2 r_16 hq_16) (cwV 1 hts gX6_write_X6_isAttribute rfl rfl rfl (by decide +kernel) ⟨Nat.le_of_ble_eq_true rfl, Nat.le_of_ble_eq_true rfl⟩) hK hP hD hS hA 0 7 rfl rfl rfl hl.1 rfl (Nat.le_of_ble_eq_true rfl) dX6_write_32 ⟨Nat.zero_le _, Nat.zero_le _⟩ (fun _ H locs hP hD hS => ?_)
        have hP : va_P (dC, dI) vwCl (wM hM hR hT hZ cI m_allRows m_allColumns m_rows m_columns m_cells z_m_cursor m_locked m_insert z_m_alarms m_rejects m_latest m_thrown m_streamLong z_m_at z_m_place z_m_orders m_escaped z_m_broken z_m_signBefore z_m_free m_waitsLong m_cutOff z_m_screen m_stream m_waits) H := hP
        have hD : va_D A (wM hM hR hT hZ cI m_allRows m_allColumns m_rows m_columns m_cells z_m_cursor m_locked m_insert z_m_alarms m_rejects m_latest m_thrown m_streamLong z_m_at z_m_place z_m_orders m_escaped z_m_broken z_m_signBefore z_m_free m_waitsLong m_cutOff z_m_screen m_stream m_waits) := hD
        refine lv_if_eq (tgt := 49) hx hb dX6_write_35 (by decide) (fun c_17 => ?_) (fun c_17 => ?_)
        · have hf := (if_pos c_17).symm.trans hf
          refine lv_iinc (v := v2 + 1) (lv' := [(2, .int (v2 + 1)), (0, .ref hM), (1, .int v1)]) hx hb dX6_write_49 hl (k := 2) rfl rfl (by decide) rfl (fun ls hl => ?_)
          refine lv_goto (tgt := 22) hx hb dX6_write_52 (by decide) ?_
          exact ih v1 (v2 + 1) z_m_cursor z_m_alarms z_m_at z_m_place z_m_orders z_m_broken z_m_signBefore z_m_free z_m_screen _ _ hf  hP hD hS ls (lv_sub hl [1, 2, 0] rfl)
        · have hf := (if_neg c_17).symm.trans hf
          refine lv_aload_n hx hb dX6_write_38 rfl (lv_at hl 0 rfl) ?_
          refine va_get (D := (dC, dI)) (ci := 7) (v := .ref hR) (C := RX6) (T := TX6) (N := 25) hx hb hts uu_X6_write_X6 hown hK hP 0 rfl rfl 6 (by decide) (hts (.fieldLink RX6 7 "BlockScreenModel" "screen" "[I") (List.mem_of_getElem? (i := 2) rfl)) (fun _ h9 => h9) rfl dX6_write_39 ?_
          refine lv_iload_n hx hb dX6_write_42 rfl (lv_at hl 2 rfl) ?_
          refine lv_dup2_11 hx hb dX6_write_43 rfl rfl ?_
          rcases Classical.em (v2 < 0 ∨ 5676 ≤ v2.toNatClampNeg) with c_18 | c_18
          · exact nn_abs ((if_pos c_18).symm.trans hf)
          have hf := (if_neg c_18).symm.trans hf
          refine va_iald hx hb hK hP 1 0 rfl rfl c_18 dX6_write_44 ?_
          refine lv_bipush (v := (-2)) hx hb dX6_write_45 (by decide) ?_
          refine lv_iand hx hb dX6_write_47 ?_
          refine va_iast hx hb hK hP hD hS 1 0 rfl rfl c_18 dX6_write_48 (fun H locs hP hD hS => ?_)
          have hP : va_P (dC, dI) vwCl (wM hM hR hT hZ cI m_allRows m_allColumns m_rows m_columns m_cells z_m_cursor m_locked m_insert z_m_alarms m_rejects m_latest m_thrown m_streamLong z_m_at z_m_place z_m_orders m_escaped z_m_broken z_m_signBefore z_m_free m_waitsLong m_cutOff (upd z_m_screen v2.toNatClampNeg ((z_m_screen v2.toNatClampNeg) &&& (-2))) m_stream m_waits) H := hP
          have hD : va_D A (wM hM hR hT hZ cI m_allRows m_allColumns m_rows m_columns m_cells z_m_cursor m_locked m_insert z_m_alarms m_rejects m_latest m_thrown m_streamLong z_m_at z_m_place z_m_orders m_escaped z_m_broken z_m_signBefore z_m_free m_waitsLong m_cutOff (upd z_m_screen v2.toNatClampNeg ((z_m_screen v2.toNatClampNeg) &&& (-2))) m_stream m_waits) := hD
          refine lv_iinc (v := v2 + 1) (lv' := [(2, .int (v2 + 1)), (0, .ref hM), (1, .int v1)]) hx hb dX6_write_49 hl (k := 2) rfl rfl (by decide) rfl (fun ls hl => ?_)
          refine lv_goto (tgt := 22) hx hb dX6_write_52 (by decide) ?_
          exact ih v1 (v2 + 1) z_m_cursor z_m_alarms z_m_at z_m_place z_m_orders z_m_broken z_m_signBefore z_m_free (upd z_m_screen v2.toNatClampNeg ((z_m_screen v2.toNatClampNeg) &&& (-2))) _ _ hf  hP hD hS ls (lv_sub hl [1, 2, 0] rfl)
  unfold f_X6_write at hf
  refine lv_aload_n hx hb dX6_write_0 rfl (lv_at hl 0 rfl) ?_
  refine lv_iconst (v := 1) hx hb dX6_write_1 (by decide) ?_
  obtain ⟨⟨r_19, m_broken_19⟩, hq_19, hf⟩ := th_inv hf
  refine my_cVi (As := [.int 1]) (rest := []) ⟨hx, hb, hml, hown, hts⟩ (c_X6_lacks l dC dI cI hM hR hT hZ m_allRows m_allColumns m_rows m_columns m_cells m_cursor m_locked m_insert m_alarms m_rejects m_latest m_thrown m_streamLong m_at m_place m_orders m_escaped m_broken m_signBefore m_free m_waitsLong m_cutOff m_screen m_stream m_waits _ 1 (r_19, m_broken_19) hq_19) (cwV 1 hts gX6_write_X6_lacks rfl rfl rfl (by decide +kernel) ⟨Nat.le_of_ble_eq_true rfl, Nat.le_of_ble_eq_true rfl⟩) hK hP hD hS hA 0 7 rfl rfl rfl hl.1 rfl (Nat.le_of_ble_eq_true rfl) dX6_write_2 ⟨Nat.zero_le _, Nat.zero_le _⟩ (fun _ H locs hP hD hS => ?_)
  have hP : va_P (dC, dI) vwCl (wM hM hR hT hZ cI m_allRows m_allColumns m_rows m_columns m_cells m_cursor m_locked m_insert m_alarms m_rejects m_latest m_thrown m_streamLong m_at m_place m_orders m_escaped m_broken_19 m_signBefore m_free m_waitsLong m_cutOff m_screen m_stream m_waits) H := hP
  have hD : va_D A (wM hM hR hT hZ cI m_allRows m_allColumns m_rows m_columns m_cells m_cursor m_locked m_insert m_alarms m_rejects m_latest m_thrown m_streamLong m_at m_place m_orders m_escaped m_broken_19 m_signBefore m_free m_waitsLong m_cutOff m_screen m_stream m_waits) := hD
  refine lv_if_eq (tgt := 9) hx hb dX6_write_5 (by decide) (fun c_20 => ?_) (fun c_20 => ?_)
  · have hf := (if_pos c_20).symm.trans hf
    refine lv_aload_n hx hb dX6_write_9 rfl (lv_at hl 0 rfl) ?_
    obtain ⟨⟨r_21, m_at_21⟩, hq_21, hf⟩ := ob_inv hf
    refine my_cVi (As := []) (rest := []) ⟨hx, hb, hml, hown, hts⟩ (c_X6_take l dC dI cI hM hR hT hZ m_allRows m_allColumns m_rows m_columns m_cells m_cursor m_locked m_insert m_alarms m_rejects m_latest m_thrown m_streamLong m_at m_place m_orders m_escaped m_broken_19 m_signBefore m_free m_waitsLong m_cutOff m_screen m_stream m_waits _  (r_21, m_at_21) hq_21) (cwV 0 hts gX6_write_X6_take rfl rfl rfl (by decide +kernel) ⟨Nat.le_of_ble_eq_true rfl, Nat.le_of_ble_eq_true rfl⟩) hK hP hD hS hA 0 7 rfl rfl rfl hl.1 rfl (Nat.le_of_ble_eq_true rfl) dX6_write_10 ⟨Nat.zero_le _, Nat.zero_le _⟩ (fun _ H locs hP hD hS => ?_)
    have hP : va_P (dC, dI) vwCl (wM hM hR hT hZ cI m_allRows m_allColumns m_rows m_columns m_cells m_cursor m_locked m_insert m_alarms m_rejects m_latest m_thrown m_streamLong m_at_21 m_place m_orders m_escaped m_broken_19 m_signBefore m_free m_waitsLong m_cutOff m_screen m_stream m_waits) H := hP
    have hD : va_D A (wM hM hR hT hZ cI m_allRows m_allColumns m_rows m_columns m_cells m_cursor m_locked m_insert m_alarms m_rejects m_latest m_thrown m_streamLong m_at_21 m_place m_orders m_escaped m_broken_19 m_signBefore m_free m_waitsLong m_cutOff m_screen m_stream m_waits) := hD
    refine lv_istore_n (lv' := [(1, .int r_21), (0, .ref hM)]) hx hb dX6_write_13 rfl hl (by decide) rfl (fun ls hl => ?_)
    refine lv_iload_n hx hb dX6_write_14 rfl (lv_at hl 0 rfl) ?_
    refine lv_iconst (v := 1) hx hb dX6_write_15 (by decide) ?_
    refine lv_iand hx hb dX6_write_16 ?_
    refine lv_if_eq (tgt := 55) hx hb dX6_write_17 (by decide) (fun c_22 => ?_) (fun c_22 => ?_)
    · have hf := (if_pos c_22).symm.trans hf
      exact L55  r_21 m_cursor m_alarms m_at_21 m_place m_orders m_broken_19 m_signBefore m_free m_screen _ _ hf  hP hD hS ls (lv_sub hl [1, 0] rfl)
    · have hf := (if_neg c_22).symm.trans hf
      refine lv_iconst (v := 0) hx hb dX6_write_20 (by decide) ?_
      refine lv_istore_n (lv' := [(2, .int 0), (1, .int r_21), (0, .ref hM)]) hx hb dX6_write_21 rfl hl (by decide) rfl (fun ls hl => ?_)
      exact L22 FU r_21 0 m_cursor m_alarms m_at_21 m_place m_orders m_broken_19 m_signBefore m_free m_screen _ _ hf  hP hD hS ls (lv_sub hl [2, 1, 0] rfl)
  · have hf := (if_neg c_20).symm.trans hf
    have hf := Option.some.inj hf
    subst hf
    exact my_retv () hx hb hr hlocks hK hP hD hS dX6_write_8

theorem uu_X6_eraseInput_X6 : ∀ w ∈ u_ws RX6 TX6 25, w ∈ wsX6_eraseInput := fun _ h => List.mem_cons_of_mem _ (List.mem_append_right _ h)
def f_X6_eraseInput_L38 (m_cells : Int32) : Nat → Int32 → Int32 → Int32 → Int32 → (Nat → Int32) → Option (Int32 × Int32 × (Nat → Int32))
  | 0, _, _, _, _, _ => none
  | fu + 1, v1, v2, z_m_cursor, z_m_waitsLong, z_m_screen =>
    if m_cells ≤ v2 then
    if v1 = (-1) then
    some (0, 0, z_m_screen)
    else
    some (v1, 0, z_m_screen)
    else
    Option.bind (f_X6_isAttribute z_m_screen v2) (fun r_3 =>
    if (b2i r_3) = 0 then
    f_X6_eraseInput_L38 m_cells fu v1 (v2 + 1) z_m_cursor z_m_waitsLong z_m_screen
    else
    if v2 < 0 ∨ 5676 ≤ v2.toNatClampNeg then none else
    if ((z_m_screen v2.toNatClampNeg) &&& 32) = 0 then
    f_X6_eraseInput_L38 m_cells fu v1 (v2 + 1) z_m_cursor z_m_waitsLong (upd z_m_screen v2.toNatClampNeg ((z_m_screen v2.toNatClampNeg) &&& (-2)))
    else
    f_X6_eraseInput_L38 m_cells fu v1 (v2 + 1) z_m_cursor z_m_waitsLong z_m_screen)
def f_X6_eraseInput_L9 (m_cells : Int32) : Nat → Int32 → Int32 → Int32 → Int32 → (Nat → Int32) → Option (Int32 × Int32 × (Nat → Int32))
  | 0, _, _, _, _, _ => none
  | fu + 1, v1, v2, z_m_cursor, z_m_waitsLong, z_m_screen =>
    if v2 < 0 then
    f_X6_eraseInput_L38 m_cells FU v1 0 z_m_cursor z_m_waitsLong z_m_screen
    else
    Option.bind (f_X6_mayBeTyped m_cells z_m_screen v2) (fun r_8 =>
    if (b2i r_8) = 0 then
    f_X6_eraseInput_L9 m_cells fu v1 (v2 + (-1)) z_m_cursor z_m_waitsLong z_m_screen
    else
    if v2 < 0 ∨ 5676 ≤ v2.toNatClampNeg then none else
    f_X6_eraseInput_L9 m_cells fu v2 (v2 + (-1)) z_m_cursor z_m_waitsLong (upd z_m_screen v2.toNatClampNeg 0))
def f_X6_eraseInput (m_cells : Int32) (m_cursor : Int32) (m_waitsLong : Int32) (m_screen : Nat → Int32) : Option (Int32 × Int32 × (Nat → Int32)) :=
    f_X6_eraseInput_L9 m_cells FU (-1) (m_cells - 1) m_cursor m_waitsLong m_screen
set_option maxHeartbeats 400000 in
set_option maxRecDepth 100000 in
theorem c_X6_eraseInput (l : Launch) (dC : Nat → ClassId) (dI : Nat → Nat → Nat) (cI : ClassId) (hM hR hT hZ : Nat) (m_allRows : Int32) (m_allColumns : Int32) (m_rows : Int32) (m_columns : Int32) (m_cells : Int32) (m_cursor : Int32) (m_locked : Bool) (m_insert : Bool) (m_alarms : Int32) (m_rejects : Int32) (m_latest : Int32) (m_thrown : Int32) (m_streamLong : Int32) (m_at : Int32) (m_place : Int32) (m_orders : Int32) (m_escaped : Bool) (m_broken : Bool) (m_signBefore : Bool) (m_free : Bool) (m_waitsLong : Int32) (m_cutOff : Bool) (m_screen : Nat → Int32) (m_stream : Nat → Int32) (m_waits : Nat → Int32) (sz : Nat)  (res : Int32 × Int32 × (Nat → Int32)) (hf : f_X6_eraseInput m_cells m_cursor m_waitsLong m_screen = some res) : Met l yX6_eraseInput wsX6_eraseInput ({ frames := 5, cells := 0, slots := 0, locals := 107 }) (va_Pc [.ref hM] (my_Pre (dC, dI) [(cI, .int)] (wM hM hR hT hZ cI m_allRows m_allColumns m_rows m_columns m_cells m_cursor m_locked m_insert m_alarms m_rejects m_latest m_thrown m_streamLong m_at m_place m_orders m_escaped m_broken m_signBefore m_free m_waitsLong m_cutOff m_screen m_stream m_waits) sz)) (my_Qv (S := Unit) (dC, dI) [(cI, .int)] (fun _ => wM hM hR hT hZ cI m_allRows m_allColumns m_rows m_columns m_cells res.1 m_locked m_insert m_alarms m_rejects m_latest m_thrown m_streamLong m_at m_place m_orders m_escaped m_broken m_signBefore m_free res.2.1 m_cutOff res.2.2 m_stream m_waits) (va_A (wM hM hR hT hZ cI m_allRows m_allColumns m_rows m_columns m_cells m_cursor m_locked m_insert m_alarms m_rejects m_latest m_thrown m_streamLong m_at m_place m_orders m_escaped m_broken m_signBefore m_free m_waitsLong m_cutOff m_screen m_stream m_waits) sz)) 0 0 (va_A (wM hM hR hT hZ cI m_allRows m_allColumns m_rows m_columns m_cells m_cursor m_locked m_insert m_alarms m_rejects m_latest m_thrown m_streamLong m_at m_place m_orders m_escaped m_broken m_signBefore m_free m_waitsLong m_cutOff m_screen m_stream m_waits) sz) := by
  refine my_enter (cc := cX6_eraseInput) (maxL := 3) (ret := none) (Qc := my_Qv (S := Unit) (dC, dI) [(cI, .int)] (fun _ => wM hM hR hT hZ cI m_allRows m_allColumns m_rows m_columns m_cells res.1 m_locked m_insert m_alarms m_rejects m_latest m_thrown m_streamLong m_at m_place m_orders m_escaped m_broken m_signBefore m_free res.2.1 m_cutOff res.2.2 m_stream m_waits)) (by decide) rfl (Nat.le_of_ble_eq_true rfl) ?_
  intro p e s m below meth c A ls hx hb hr hml hts hown hlocks hnm hP hK hD hA hS hl
  have hown : s.vm.findClass RX6 = some m.cls := hown
  have hl : lv_has ls 3 [(0, .ref hM)] := hl
  have L38 : ∀ (fu : Nat) (v1 : Int32) (v2 : Int32) (z_m_cursor : Int32) (z_m_waitsLong : Int32) (z_m_screen : Nat → Int32)  (H : Heap) (locs : List Loc), f_X6_eraseInput_L38 m_cells fu v1 v2 z_m_cursor z_m_waitsLong z_m_screen = some res → va_P (dC, dI) vwCl (wM hM hR hT hZ cI m_allRows m_allColumns m_rows m_columns m_cells z_m_cursor m_locked m_insert m_alarms m_rejects m_latest m_thrown m_streamLong m_at m_place m_orders m_escaped m_broken m_signBefore m_free z_m_waitsLong m_cutOff z_m_screen m_stream m_waits) H → va_D A (wM hM hR hT hZ cI m_allRows m_allColumns m_rows m_columns m_cells z_m_cursor m_locked m_insert m_alarms m_rejects m_latest m_thrown m_streamLong m_at m_place m_orders m_escaped m_broken m_signBefore m_free z_m_waitsLong m_cutOff z_m_screen m_stream m_waits) → va_S A s.heap H locs → ∀ (ls : Array Slot), lv_has ls 3 [(0, .ref hM), (1, .int v1), (2, .int v2)] → W p l e (headSpec wsX6_eraseInput ({ frames := 5, cells := 0, slots := 0, locals := 107 })).room s m ([.ref hM] : List Value).toArray below meth c H locs 0 0 (MQ below (my_Qv (S := Unit) (dC, dI) [(cI, .int)] (fun _ => wM hM hR hT hZ cI m_allRows m_allColumns m_rows m_columns m_cells res.1 m_locked m_insert m_alarms m_rejects m_latest m_thrown m_streamLong m_at m_place m_orders m_escaped m_broken m_signBefore m_free res.2.1 m_cutOff res.2.2 m_stream m_waits) A) ([.ref hM] : List Value).toArray s 0 0 A) (F0 m 38 ls []) := by
    intro fu
    induction fu with
    | zero =>
      intro v1 v2 z_m_cursor z_m_waitsLong z_m_screen H locs hf
      rw [f_X6_eraseInput_L38.eq_1] at hf
      cases hf
    | succ fu ih =>
      intro v1 v2 z_m_cursor z_m_waitsLong z_m_screen H locs hf  hP hD hS ls hl
      rw [f_X6_eraseInput_L38.eq_2] at hf
      refine lv_iload_n hx hb dX6_eraseInput_38 rfl (lv_at hl 2 rfl) ?_
      refine lv_aload_n hx hb dX6_eraseInput_39 rfl (lv_at hl 0 rfl) ?_
      refine va_get (D := (dC, dI)) (ci := 7) (v := .int m_cells) (C := RX6) (T := TX6) (N := 25) hx hb hts uu_X6_eraseInput_X6 hown hK hP 0 rfl rfl 4 (by decide) (hts (.fieldLink RX6 46 "BlockScreenModel" "cells" "I") (List.mem_of_getElem? (i := 1) rfl)) (fun _ h9 => h9) rfl dX6_eraseInput_40 ?_
      refine lv_icmp_ge (tgt := 83) hx hb dX6_eraseInput_43 (by decide) (fun c_1 => ?_) (fun c_1 => ?_)
      · have hf := (if_pos c_1).symm.trans hf
        refine lv_aload_n hx hb dX6_eraseInput_83 rfl (lv_at hl 0 rfl) ?_
        refine lv_iload_n hx hb dX6_eraseInput_84 rfl (lv_at hl 1 rfl) ?_
        refine lv_iconst (v := (-1)) hx hb dX6_eraseInput_85 (by decide) ?_
        refine lv_icmp_ne (tgt := 93) hx hb dX6_eraseInput_86 (by decide) (fun c_2 => ?_) (fun c_2 => ?_)
        · have hf := (if_neg c_2).symm.trans hf
          refine lv_iload_n hx hb dX6_eraseInput_93 rfl (lv_at hl 1 rfl) ?_
          refine va_put (D := (dC, dI)) (ci := 7) (v := .int v1) (C := RX6) (T := TX6) (N := 25) hx hb hts uu_X6_eraseInput_X6 tyX6 tyX6_ok nmX6 hown hK hP hD hS 0 rfl rfl 5 (by decide) (hts (.fieldLink RX6 49 "BlockScreenModel" "cursor" "I") (List.mem_of_getElem? (i := 3) rfl)) (fun _ h9 => h9) rfl (tyX6_ok 5 (by decide)) rfl rfl (Nat.le_of_ble_eq_true rfl) dX6_eraseInput_94 (fun H locs hP hD hS => ?_)
          have hP : va_P (dC, dI) vwCl (wM hM hR hT hZ cI m_allRows m_allColumns m_rows m_columns m_cells v1 m_locked m_insert m_alarms m_rejects m_latest m_thrown m_streamLong m_at m_place m_orders m_escaped m_broken m_signBefore m_free z_m_waitsLong m_cutOff z_m_screen m_stream m_waits) H := hP
          have hD : va_D A (wM hM hR hT hZ cI m_allRows m_allColumns m_rows m_columns m_cells v1 m_locked m_insert m_alarms m_rejects m_latest m_thrown m_streamLong m_at m_place m_orders m_escaped m_broken m_signBefore m_free z_m_waitsLong m_cutOff z_m_screen m_stream m_waits) := hD
          refine lv_aload_n hx hb dX6_eraseInput_97 rfl (lv_at hl 0 rfl) ?_
          refine lv_iconst (v := 0) hx hb dX6_eraseInput_98 (by decide) ?_
          refine va_put (D := (dC, dI)) (ci := 7) (v := .int 0) (C := RX6) (T := TX6) (N := 25) hx hb hts uu_X6_eraseInput_X6 tyX6 tyX6_ok nmX6 hown hK hP hD hS 0 rfl rfl 23 (by decide) (hts (.fieldLink RX6 137 "BlockScreenModel" "waitsLong" "I") (List.mem_of_getElem? (i := 4) rfl)) (fun _ h9 => h9) rfl (tyX6_ok 23 (by decide)) rfl rfl (Nat.le_of_ble_eq_true rfl) dX6_eraseInput_99 (fun H locs hP hD hS => ?_)
          have hP : va_P (dC, dI) vwCl (wM hM hR hT hZ cI m_allRows m_allColumns m_rows m_columns m_cells v1 m_locked m_insert m_alarms m_rejects m_latest m_thrown m_streamLong m_at m_place m_orders m_escaped m_broken m_signBefore m_free 0 m_cutOff z_m_screen m_stream m_waits) H := hP
          have hD : va_D A (wM hM hR hT hZ cI m_allRows m_allColumns m_rows m_columns m_cells v1 m_locked m_insert m_alarms m_rejects m_latest m_thrown m_streamLong m_at m_place m_orders m_escaped m_broken m_signBefore m_free 0 m_cutOff z_m_screen m_stream m_waits) := hD
          have hf := Option.some.inj hf
          subst hf
          exact my_retv () hx hb hr hlocks hK hP hD hS dX6_eraseInput_102
        · have hf := (if_pos c_2).symm.trans hf
          refine lv_iconst (v := 0) hx hb dX6_eraseInput_89 (by decide) ?_
          refine lv_goto (tgt := 94) hx hb dX6_eraseInput_90 (by decide) ?_
          refine va_put (D := (dC, dI)) (ci := 7) (v := .int 0) (C := RX6) (T := TX6) (N := 25) hx hb hts uu_X6_eraseInput_X6 tyX6 tyX6_ok nmX6 hown hK hP hD hS 0 rfl rfl 5 (by decide) (hts (.fieldLink RX6 49 "BlockScreenModel" "cursor" "I") (List.mem_of_getElem? (i := 3) rfl)) (fun _ h9 => h9) rfl (tyX6_ok 5 (by decide)) rfl rfl (Nat.le_of_ble_eq_true rfl) dX6_eraseInput_94 (fun H locs hP hD hS => ?_)
          have hP : va_P (dC, dI) vwCl (wM hM hR hT hZ cI m_allRows m_allColumns m_rows m_columns m_cells 0 m_locked m_insert m_alarms m_rejects m_latest m_thrown m_streamLong m_at m_place m_orders m_escaped m_broken m_signBefore m_free z_m_waitsLong m_cutOff z_m_screen m_stream m_waits) H := hP
          have hD : va_D A (wM hM hR hT hZ cI m_allRows m_allColumns m_rows m_columns m_cells 0 m_locked m_insert m_alarms m_rejects m_latest m_thrown m_streamLong m_at m_place m_orders m_escaped m_broken m_signBefore m_free z_m_waitsLong m_cutOff z_m_screen m_stream m_waits) := hD
          refine lv_aload_n hx hb dX6_eraseInput_97 rfl (lv_at hl 0 rfl) ?_
          refine lv_iconst (v := 0) hx hb dX6_eraseInput_98 (by decide) ?_
          refine va_put (D := (dC, dI)) (ci := 7) (v := .int 0) (C := RX6) (T := TX6) (N := 25) hx hb hts uu_X6_eraseInput_X6 tyX6 tyX6_ok nmX6 hown hK hP hD hS 0 rfl rfl 23 (by decide) (hts (.fieldLink RX6 137 "BlockScreenModel" "waitsLong" "I") (List.mem_of_getElem? (i := 4) rfl)) (fun _ h9 => h9) rfl (tyX6_ok 23 (by decide)) rfl rfl (Nat.le_of_ble_eq_true rfl) dX6_eraseInput_99 (fun H locs hP hD hS => ?_)
          have hP : va_P (dC, dI) vwCl (wM hM hR hT hZ cI m_allRows m_allColumns m_rows m_columns m_cells 0 m_locked m_insert m_alarms m_rejects m_latest m_thrown m_streamLong m_at m_place m_orders m_escaped m_broken m_signBefore m_free 0 m_cutOff z_m_screen m_stream m_waits) H := hP
          have hD : va_D A (wM hM hR hT hZ cI m_allRows m_allColumns m_rows m_columns m_cells 0 m_locked m_insert m_alarms m_rejects m_latest m_thrown m_streamLong m_at m_place m_orders m_escaped m_broken m_signBefore m_free 0 m_cutOff z_m_screen m_stream m_waits) := hD
          have hf := Option.some.inj hf
          subst hf
          exact my_retv () hx hb hr hlocks hK hP hD hS dX6_eraseInput_102
      · have hf := (if_neg c_1).symm.trans hf
        refine lv_aload_n hx hb dX6_eraseInput_46 rfl (lv_at hl 0 rfl) ?_
        refine lv_iload_n hx hb dX6_eraseInput_47 rfl (lv_at hl 2 rfl) ?_
        obtain ⟨r_3, hq_3, hf⟩ := ob_inv hf
        refine my_cVi (As := [.int v2]) (rest := []) ⟨hx, hb, hml, hown, hts⟩ (c_X6_isAttribute l dC dI cI hM hR hT hZ m_allRows m_allColumns m_rows m_columns m_cells z_m_cursor m_locked m_insert m_alarms m_rejects m_latest m_thrown m_streamLong m_at m_place m_orders m_escaped m_broken m_signBefore m_free z_m_waitsLong m_cutOff z_m_screen m_stream m_waits _ v2 r_3 hq_3) (cwV 1 hts gX6_eraseInput_X6_isAttribute rfl rfl rfl (by decide +kernel) ⟨Nat.le_of_ble_eq_true rfl, Nat.le_of_ble_eq_true rfl⟩) hK hP hD hS hA 0 7 rfl rfl rfl hl.1 rfl (Nat.le_of_ble_eq_true rfl) dX6_eraseInput_48 ⟨Nat.zero_le _, Nat.zero_le _⟩ (fun _ H locs hP hD hS => ?_)
        have hP : va_P (dC, dI) vwCl (wM hM hR hT hZ cI m_allRows m_allColumns m_rows m_columns m_cells z_m_cursor m_locked m_insert m_alarms m_rejects m_latest m_thrown m_streamLong m_at m_place m_orders m_escaped m_broken m_signBefore m_free z_m_waitsLong m_cutOff z_m_screen m_stream m_waits) H := hP
        have hD : va_D A (wM hM hR hT hZ cI m_allRows m_allColumns m_rows m_columns m_cells z_m_cursor m_locked m_insert m_alarms m_rejects m_latest m_thrown m_streamLong m_at m_place m_orders m_escaped m_broken m_signBefore m_free z_m_waitsLong m_cutOff z_m_screen m_stream m_waits) := hD
        refine lv_if_eq (tgt := 77) hx hb dX6_eraseInput_51 (by decide) (fun c_4 => ?_) (fun c_4 => ?_)
        · have hf := (if_pos c_4).symm.trans hf
          refine lv_iinc (v := v2 + 1) (lv' := [(2, .int (v2 + 1)), (0, .ref hM), (1, .int v1)]) hx hb dX6_eraseInput_77 hl (k := 2) rfl rfl (by decide) rfl (fun ls hl => ?_)
          refine lv_goto (tgt := 38) hx hb dX6_eraseInput_80 (by decide) ?_
          exact ih v1 (v2 + 1) z_m_cursor z_m_waitsLong z_m_screen _ _ hf  hP hD hS ls (lv_sub hl [1, 2, 0] rfl)
        · have hf := (if_neg c_4).symm.trans hf
          refine lv_aload_n hx hb dX6_eraseInput_54 rfl (lv_at hl 0 rfl) ?_
          refine va_get (D := (dC, dI)) (ci := 7) (v := .ref hR) (C := RX6) (T := TX6) (N := 25) hx hb hts uu_X6_eraseInput_X6 hown hK hP 0 rfl rfl 6 (by decide) (hts (.fieldLink RX6 7 "BlockScreenModel" "screen" "[I") (List.mem_of_getElem? (i := 2) rfl)) (fun _ h9 => h9) rfl dX6_eraseInput_55 ?_
          refine lv_iload_n hx hb dX6_eraseInput_58 rfl (lv_at hl 2 rfl) ?_
          rcases Classical.em (v2 < 0 ∨ 5676 ≤ v2.toNatClampNeg) with c_5 | c_5
          · exact nn_abs ((if_pos c_5).symm.trans hf)
          have hf := (if_neg c_5).symm.trans hf
          refine va_iald hx hb hK hP 1 0 rfl rfl c_5 dX6_eraseInput_59 ?_
          refine lv_bipush (v := 32) hx hb dX6_eraseInput_60 (by decide) ?_
          refine lv_iand hx hb dX6_eraseInput_62 ?_
          refine lv_if_ne (tgt := 77) hx hb dX6_eraseInput_63 (by decide) (fun c_6 => ?_) (fun c_6 => ?_)
          · have hf := (if_neg c_6).symm.trans hf
            refine lv_iinc (v := v2 + 1) (lv' := [(2, .int (v2 + 1)), (0, .ref hM), (1, .int v1)]) hx hb dX6_eraseInput_77 hl (k := 2) rfl rfl (by decide) rfl (fun ls hl => ?_)
            refine lv_goto (tgt := 38) hx hb dX6_eraseInput_80 (by decide) ?_
            exact ih v1 (v2 + 1) z_m_cursor z_m_waitsLong z_m_screen _ _ hf  hP hD hS ls (lv_sub hl [1, 2, 0] rfl)
          · have hf := (if_pos c_6).symm.trans hf
            refine lv_aload_n hx hb dX6_eraseInput_66 rfl (lv_at hl 0 rfl) ?_
            refine va_get (D := (dC, dI)) (ci := 7) (v := .ref hR) (C := RX6) (T := TX6) (N := 25) hx hb hts uu_X6_eraseInput_X6 hown hK hP 0 rfl rfl 6 (by decide) (hts (.fieldLink RX6 7 "BlockScreenModel" "screen" "[I") (List.mem_of_getElem? (i := 2) rfl)) (fun _ h9 => h9) rfl dX6_eraseInput_67 ?_
            refine lv_iload_n hx hb dX6_eraseInput_70 rfl (lv_at hl 2 rfl) ?_
            refine lv_dup2_11 hx hb dX6_eraseInput_71 rfl rfl ?_
            refine va_iald hx hb hK hP 1 0 rfl rfl c_5 dX6_eraseInput_72 ?_
            refine lv_bipush (v := (-2)) hx hb dX6_eraseInput_73 (by decide) ?_
            refine lv_iand hx hb dX6_eraseInput_75 ?_
            refine va_iast hx hb hK hP hD hS 1 0 rfl rfl c_5 dX6_eraseInput_76 (fun H locs hP hD hS => ?_)
            have hP : va_P (dC, dI) vwCl (wM hM hR hT hZ cI m_allRows m_allColumns m_rows m_columns m_cells z_m_cursor m_locked m_insert m_alarms m_rejects m_latest m_thrown m_streamLong m_at m_place m_orders m_escaped m_broken m_signBefore m_free z_m_waitsLong m_cutOff (upd z_m_screen v2.toNatClampNeg ((z_m_screen v2.toNatClampNeg) &&& (-2))) m_stream m_waits) H := hP
            have hD : va_D A (wM hM hR hT hZ cI m_allRows m_allColumns m_rows m_columns m_cells z_m_cursor m_locked m_insert m_alarms m_rejects m_latest m_thrown m_streamLong m_at m_place m_orders m_escaped m_broken m_signBefore m_free z_m_waitsLong m_cutOff (upd z_m_screen v2.toNatClampNeg ((z_m_screen v2.toNatClampNeg) &&& (-2))) m_stream m_waits) := hD
            refine lv_iinc (v := v2 + 1) (lv' := [(2, .int (v2 + 1)), (0, .ref hM), (1, .int v1)]) hx hb dX6_eraseInput_77 hl (k := 2) rfl rfl (by decide) rfl (fun ls hl => ?_)
            refine lv_goto (tgt := 38) hx hb dX6_eraseInput_80 (by decide) ?_
            exact ih v1 (v2 + 1) z_m_cursor z_m_waitsLong (upd z_m_screen v2.toNatClampNeg ((z_m_screen v2.toNatClampNeg) &&& (-2))) _ _ hf  hP hD hS ls (lv_sub hl [1, 2, 0] rfl)
  have L9 : ∀ (fu : Nat) (v1 : Int32) (v2 : Int32) (z_m_cursor : Int32) (z_m_waitsLong : Int32) (z_m_screen : Nat → Int32)  (H : Heap) (locs : List Loc), f_X6_eraseInput_L9 m_cells fu v1 v2 z_m_cursor z_m_waitsLong z_m_screen = some res → va_P (dC, dI) vwCl (wM hM hR hT hZ cI m_allRows m_allColumns m_rows m_columns m_cells z_m_cursor m_locked m_insert m_alarms m_rejects m_latest m_thrown m_streamLong m_at m_place m_orders m_escaped m_broken m_signBefore m_free z_m_waitsLong m_cutOff z_m_screen m_stream m_waits) H → va_D A (wM hM hR hT hZ cI m_allRows m_allColumns m_rows m_columns m_cells z_m_cursor m_locked m_insert m_alarms m_rejects m_latest m_thrown m_streamLong m_at m_place m_orders m_escaped m_broken m_signBefore m_free z_m_waitsLong m_cutOff z_m_screen m_stream m_waits) → va_S A s.heap H locs → ∀ (ls : Array Slot), lv_has ls 3 [(0, .ref hM), (1, .int v1), (2, .int v2)] → W p l e (headSpec wsX6_eraseInput ({ frames := 5, cells := 0, slots := 0, locals := 107 })).room s m ([.ref hM] : List Value).toArray below meth c H locs 0 0 (MQ below (my_Qv (S := Unit) (dC, dI) [(cI, .int)] (fun _ => wM hM hR hT hZ cI m_allRows m_allColumns m_rows m_columns m_cells res.1 m_locked m_insert m_alarms m_rejects m_latest m_thrown m_streamLong m_at m_place m_orders m_escaped m_broken m_signBefore m_free res.2.1 m_cutOff res.2.2 m_stream m_waits) A) ([.ref hM] : List Value).toArray s 0 0 A) (F0 m 9 ls []) := by
    intro fu
    induction fu with
    | zero =>
      intro v1 v2 z_m_cursor z_m_waitsLong z_m_screen H locs hf
      rw [f_X6_eraseInput_L9.eq_1] at hf
      cases hf
    | succ fu ih =>
      intro v1 v2 z_m_cursor z_m_waitsLong z_m_screen H locs hf  hP hD hS ls hl
      rw [f_X6_eraseInput_L9.eq_2] at hf
      refine lv_iload_n hx hb dX6_eraseInput_9 rfl (lv_at hl 2 rfl) ?_
      refine lv_if_lt (tgt := 36) hx hb dX6_eraseInput_10 (by decide) (fun c_7 => ?_) (fun c_7 => ?_)
      · have hf := (if_pos c_7).symm.trans hf
        refine lv_iconst (v := 0) hx hb dX6_eraseInput_36 (by decide) ?_
        refine lv_istore_n (lv' := [(2, .int 0), (0, .ref hM), (1, .int v1)]) hx hb dX6_eraseInput_37 rfl hl (by decide) rfl (fun ls hl => ?_)
        exact L38 FU v1 0 z_m_cursor z_m_waitsLong z_m_screen _ _ hf  hP hD hS ls (lv_sub hl [1, 2, 0] rfl)
      · have hf := (if_neg c_7).symm.trans hf
        refine lv_aload_n hx hb dX6_eraseInput_13 rfl (lv_at hl 0 rfl) ?_
        refine lv_iload_n hx hb dX6_eraseInput_14 rfl (lv_at hl 2 rfl) ?_
        obtain ⟨r_8, hq_8, hf⟩ := ob_inv hf
        refine my_cVi (As := [.int v2]) (rest := []) ⟨hx, hb, hml, hown, hts⟩ (c_X6_mayBeTyped l dC dI cI hM hR hT hZ m_allRows m_allColumns m_rows m_columns m_cells z_m_cursor m_locked m_insert m_alarms m_rejects m_latest m_thrown m_streamLong m_at m_place m_orders m_escaped m_broken m_signBefore m_free z_m_waitsLong m_cutOff z_m_screen m_stream m_waits _ v2 r_8 hq_8) (cwV 1 hts gX6_eraseInput_X6_mayBeTyped rfl rfl rfl (by decide +kernel) ⟨Nat.le_of_ble_eq_true rfl, Nat.le_of_ble_eq_true rfl⟩) hK hP hD hS hA 0 7 rfl rfl rfl hl.1 rfl (Nat.le_of_ble_eq_true rfl) dX6_eraseInput_15 ⟨Nat.zero_le _, Nat.zero_le _⟩ (fun _ H locs hP hD hS => ?_)
        have hP : va_P (dC, dI) vwCl (wM hM hR hT hZ cI m_allRows m_allColumns m_rows m_columns m_cells z_m_cursor m_locked m_insert m_alarms m_rejects m_latest m_thrown m_streamLong m_at m_place m_orders m_escaped m_broken m_signBefore m_free z_m_waitsLong m_cutOff z_m_screen m_stream m_waits) H := hP
        have hD : va_D A (wM hM hR hT hZ cI m_allRows m_allColumns m_rows m_columns m_cells z_m_cursor m_locked m_insert m_alarms m_rejects m_latest m_thrown m_streamLong m_at m_place m_orders m_escaped m_broken m_signBefore m_free z_m_waitsLong m_cutOff z_m_screen m_stream m_waits) := hD
        refine lv_if_eq (tgt := 30) hx hb dX6_eraseInput_18 (by decide) (fun c_9 => ?_) (fun c_9 => ?_)
        · have hf := (if_pos c_9).symm.trans hf
          refine lv_iinc (v := v2 + (-1)) (lv' := [(2, .int (v2 + (-1))), (0, .ref hM), (1, .int v1)]) hx hb dX6_eraseInput_30 hl (k := 2) rfl rfl (by decide) rfl (fun ls hl => ?_)
          refine lv_goto (tgt := 9) hx hb dX6_eraseInput_33 (by decide) ?_
          exact ih v1 (v2 + (-1)) z_m_cursor z_m_waitsLong z_m_screen _ _ hf  hP hD hS ls (lv_sub hl [1, 2, 0] rfl)
        · have hf := (if_neg c_9).symm.trans hf
          refine lv_aload_n hx hb dX6_eraseInput_21 rfl (lv_at hl 0 rfl) ?_
          refine va_get (D := (dC, dI)) (ci := 7) (v := .ref hR) (C := RX6) (T := TX6) (N := 25) hx hb hts uu_X6_eraseInput_X6 hown hK hP 0 rfl rfl 6 (by decide) (hts (.fieldLink RX6 7 "BlockScreenModel" "screen" "[I") (List.mem_of_getElem? (i := 2) rfl)) (fun _ h9 => h9) rfl dX6_eraseInput_22 ?_
          refine lv_iload_n hx hb dX6_eraseInput_25 rfl (lv_at hl 2 rfl) ?_
          refine lv_iconst (v := 0) hx hb dX6_eraseInput_26 (by decide) ?_
          rcases Classical.em (v2 < 0 ∨ 5676 ≤ v2.toNatClampNeg) with c_10 | c_10
          · exact nn_abs ((if_pos c_10).symm.trans hf)
          have hf := (if_neg c_10).symm.trans hf
          refine va_iast hx hb hK hP hD hS 1 0 rfl rfl c_10 dX6_eraseInput_27 (fun H locs hP hD hS => ?_)
          have hP : va_P (dC, dI) vwCl (wM hM hR hT hZ cI m_allRows m_allColumns m_rows m_columns m_cells z_m_cursor m_locked m_insert m_alarms m_rejects m_latest m_thrown m_streamLong m_at m_place m_orders m_escaped m_broken m_signBefore m_free z_m_waitsLong m_cutOff (upd z_m_screen v2.toNatClampNeg 0) m_stream m_waits) H := hP
          have hD : va_D A (wM hM hR hT hZ cI m_allRows m_allColumns m_rows m_columns m_cells z_m_cursor m_locked m_insert m_alarms m_rejects m_latest m_thrown m_streamLong m_at m_place m_orders m_escaped m_broken m_signBefore m_free z_m_waitsLong m_cutOff (upd z_m_screen v2.toNatClampNeg 0) m_stream m_waits) := hD
          refine lv_iload_n hx hb dX6_eraseInput_28 rfl (lv_at hl 2 rfl) ?_
          refine lv_istore_n (lv' := [(1, .int v2), (0, .ref hM), (2, .int v2)]) hx hb dX6_eraseInput_29 rfl hl (by decide) rfl (fun ls hl => ?_)
          refine lv_iinc (v := v2 + (-1)) (lv' := [(2, .int (v2 + (-1))), (1, .int v2), (0, .ref hM)]) hx hb dX6_eraseInput_30 hl (k := 2) rfl rfl (by decide) rfl (fun ls hl => ?_)
          refine lv_goto (tgt := 9) hx hb dX6_eraseInput_33 (by decide) ?_
          exact ih v2 (v2 + (-1)) z_m_cursor z_m_waitsLong (upd z_m_screen v2.toNatClampNeg 0) _ _ hf  hP hD hS ls (lv_sub hl [2, 1, 0] rfl)
  unfold f_X6_eraseInput at hf
  refine lv_iconst (v := (-1)) hx hb dX6_eraseInput_0 (by decide) ?_
  refine lv_istore_n (lv' := [(1, .int (-1)), (0, .ref hM)]) hx hb dX6_eraseInput_1 rfl hl (by decide) rfl (fun ls hl => ?_)
  refine lv_aload_n hx hb dX6_eraseInput_2 rfl (lv_at hl 1 rfl) ?_
  refine va_get (D := (dC, dI)) (ci := 7) (v := .int m_cells) (C := RX6) (T := TX6) (N := 25) hx hb hts uu_X6_eraseInput_X6 hown hK hP 0 rfl rfl 4 (by decide) (hts (.fieldLink RX6 46 "BlockScreenModel" "cells" "I") (List.mem_of_getElem? (i := 1) rfl)) (fun _ h9 => h9) rfl dX6_eraseInput_3 ?_
  refine lv_iconst (v := 1) hx hb dX6_eraseInput_6 (by decide) ?_
  refine lv_isub hx hb dX6_eraseInput_7 ?_
  refine lv_istore_n (lv' := [(2, .int (m_cells - 1)), (1, .int (-1)), (0, .ref hM)]) hx hb dX6_eraseInput_8 rfl hl (by decide) rfl (fun ls hl => ?_)
  exact L9 FU (-1) (m_cells - 1) m_cursor m_waitsLong m_screen _ _ hf  hP hD hS ls (lv_sub hl [2, 1, 0] rfl)

theorem uu_X6_send_X6 : ∀ w ∈ u_ws RX6 TX6 25, w ∈ wsX6_send := fun _ h => List.mem_cons_of_mem _ (List.mem_append_right _ h)
def f_X6_send (m_waitsLong : Int32) (m_waits : Nat → Int32) (a1 : Int32) : Option (Int32 × (Nat → Int32)) :=
    if m_waitsLong < 0 ∨ 23000 ≤ m_waitsLong.toNatClampNeg then none else
    if a1 = 255 then
    if (m_waitsLong + 1) < 0 ∨ 23000 ≤ (m_waitsLong + 1).toNatClampNeg then none else
    some ((m_waitsLong + 1) + 1, upd (upd m_waits m_waitsLong.toNatClampNeg a1) (m_waitsLong + 1).toNatClampNeg a1)
    else
    some (m_waitsLong + 1, upd m_waits m_waitsLong.toNatClampNeg a1)
set_option maxHeartbeats 400000 in
set_option maxRecDepth 100000 in
theorem c_X6_send (l : Launch) (dC : Nat → ClassId) (dI : Nat → Nat → Nat) (cI : ClassId) (hM hR hT hZ : Nat) (m_allRows : Int32) (m_allColumns : Int32) (m_rows : Int32) (m_columns : Int32) (m_cells : Int32) (m_cursor : Int32) (m_locked : Bool) (m_insert : Bool) (m_alarms : Int32) (m_rejects : Int32) (m_latest : Int32) (m_thrown : Int32) (m_streamLong : Int32) (m_at : Int32) (m_place : Int32) (m_orders : Int32) (m_escaped : Bool) (m_broken : Bool) (m_signBefore : Bool) (m_free : Bool) (m_waitsLong : Int32) (m_cutOff : Bool) (m_screen : Nat → Int32) (m_stream : Nat → Int32) (m_waits : Nat → Int32) (sz : Nat) (a1 : Int32) (res : Int32 × (Nat → Int32)) (hf : f_X6_send m_waitsLong m_waits a1 = some res) : Met l yX6_send wsX6_send ({ frames := 0, cells := 0, slots := 0, locals := 0 }) (va_Pc [.ref hM, .int a1] (my_Pre (dC, dI) [(cI, .int)] (wM hM hR hT hZ cI m_allRows m_allColumns m_rows m_columns m_cells m_cursor m_locked m_insert m_alarms m_rejects m_latest m_thrown m_streamLong m_at m_place m_orders m_escaped m_broken m_signBefore m_free m_waitsLong m_cutOff m_screen m_stream m_waits) sz)) (my_Qv (S := Unit) (dC, dI) [(cI, .int)] (fun _ => wM hM hR hT hZ cI m_allRows m_allColumns m_rows m_columns m_cells m_cursor m_locked m_insert m_alarms m_rejects m_latest m_thrown m_streamLong m_at m_place m_orders m_escaped m_broken m_signBefore m_free res.1 m_cutOff m_screen m_stream res.2) (va_A (wM hM hR hT hZ cI m_allRows m_allColumns m_rows m_columns m_cells m_cursor m_locked m_insert m_alarms m_rejects m_latest m_thrown m_streamLong m_at m_place m_orders m_escaped m_broken m_signBefore m_free m_waitsLong m_cutOff m_screen m_stream m_waits) sz)) 0 0 (va_A (wM hM hR hT hZ cI m_allRows m_allColumns m_rows m_columns m_cells m_cursor m_locked m_insert m_alarms m_rejects m_latest m_thrown m_streamLong m_at m_place m_orders m_escaped m_broken m_signBefore m_free m_waitsLong m_cutOff m_screen m_stream m_waits) sz) := by
  refine my_enter (cc := cX6_send) (maxL := 2) (ret := none) (Qc := my_Qv (S := Unit) (dC, dI) [(cI, .int)] (fun _ => wM hM hR hT hZ cI m_allRows m_allColumns m_rows m_columns m_cells m_cursor m_locked m_insert m_alarms m_rejects m_latest m_thrown m_streamLong m_at m_place m_orders m_escaped m_broken m_signBefore m_free res.1 m_cutOff m_screen m_stream res.2)) (by decide) rfl (Nat.le_of_ble_eq_true rfl) ?_
  intro p e s m below meth c A ls hx hb hr hml hts hown hlocks hnm hP hK hD hA hS hl
  have hown : s.vm.findClass RX6 = some m.cls := hown
  have hl : lv_has ls 2 [(0, .ref hM), (1, .int a1)] := hl
  unfold f_X6_send at hf
  refine lv_aload_n hx hb dX6_send_0 rfl (lv_at hl 0 rfl) ?_
  refine va_get (D := (dC, dI)) (ci := 7) (v := .ref hZ) (C := RX6) (T := TX6) (N := 25) hx hb hts uu_X6_send_X6 hown hK hP 0 rfl rfl 22 (by decide) (hts (.fieldLink RX6 24 "BlockScreenModel" "waits" "[I") (List.mem_of_getElem? (i := 1) rfl)) (fun _ h9 => h9) rfl dX6_send_1 ?_
  refine lv_aload_n hx hb dX6_send_4 rfl (lv_at hl 0 rfl) ?_
  refine va_get (D := (dC, dI)) (ci := 7) (v := .int m_waitsLong) (C := RX6) (T := TX6) (N := 25) hx hb hts uu_X6_send_X6 hown hK hP 0 rfl rfl 23 (by decide) (hts (.fieldLink RX6 137 "BlockScreenModel" "waitsLong" "I") (List.mem_of_getElem? (i := 2) rfl)) (fun _ h9 => h9) rfl dX6_send_5 ?_
  refine lv_iload_n hx hb dX6_send_8 rfl (lv_at hl 1 rfl) ?_
  rcases Classical.em (m_waitsLong < 0 ∨ 23000 ≤ m_waitsLong.toNatClampNeg) with c_1 | c_1
  · exact nn_abs ((if_pos c_1).symm.trans hf)
  have hf := (if_neg c_1).symm.trans hf
  refine va_iast hx hb hK hP hD hS 3 0 rfl rfl c_1 dX6_send_9 (fun H locs hP hD hS => ?_)
  have hP : va_P (dC, dI) vwCl (wM hM hR hT hZ cI m_allRows m_allColumns m_rows m_columns m_cells m_cursor m_locked m_insert m_alarms m_rejects m_latest m_thrown m_streamLong m_at m_place m_orders m_escaped m_broken m_signBefore m_free m_waitsLong m_cutOff m_screen m_stream (upd m_waits m_waitsLong.toNatClampNeg a1)) H := hP
  have hD : va_D A (wM hM hR hT hZ cI m_allRows m_allColumns m_rows m_columns m_cells m_cursor m_locked m_insert m_alarms m_rejects m_latest m_thrown m_streamLong m_at m_place m_orders m_escaped m_broken m_signBefore m_free m_waitsLong m_cutOff m_screen m_stream (upd m_waits m_waitsLong.toNatClampNeg a1)) := hD
  refine lv_aload_n hx hb dX6_send_10 rfl (lv_at hl 0 rfl) ?_
  refine lv_dup hx hb dX6_send_11 rfl ?_
  refine va_get (D := (dC, dI)) (ci := 7) (v := .int m_waitsLong) (C := RX6) (T := TX6) (N := 25) hx hb hts uu_X6_send_X6 hown hK hP 0 rfl rfl 23 (by decide) (hts (.fieldLink RX6 137 "BlockScreenModel" "waitsLong" "I") (List.mem_of_getElem? (i := 2) rfl)) (fun _ h9 => h9) rfl dX6_send_12 ?_
  refine lv_iconst (v := 1) hx hb dX6_send_15 (by decide) ?_
  refine lv_iadd hx hb dX6_send_16 ?_
  refine va_put (D := (dC, dI)) (ci := 7) (v := .int (m_waitsLong + 1)) (C := RX6) (T := TX6) (N := 25) hx hb hts uu_X6_send_X6 tyX6 tyX6_ok nmX6 hown hK hP hD hS 0 rfl rfl 23 (by decide) (hts (.fieldLink RX6 137 "BlockScreenModel" "waitsLong" "I") (List.mem_of_getElem? (i := 2) rfl)) (fun _ h9 => h9) rfl (tyX6_ok 23 (by decide)) rfl rfl (Nat.le_of_ble_eq_true rfl) dX6_send_17 (fun H locs hP hD hS => ?_)
  have hP : va_P (dC, dI) vwCl (wM hM hR hT hZ cI m_allRows m_allColumns m_rows m_columns m_cells m_cursor m_locked m_insert m_alarms m_rejects m_latest m_thrown m_streamLong m_at m_place m_orders m_escaped m_broken m_signBefore m_free (m_waitsLong + 1) m_cutOff m_screen m_stream (upd m_waits m_waitsLong.toNatClampNeg a1)) H := hP
  have hD : va_D A (wM hM hR hT hZ cI m_allRows m_allColumns m_rows m_columns m_cells m_cursor m_locked m_insert m_alarms m_rejects m_latest m_thrown m_streamLong m_at m_place m_orders m_escaped m_broken m_signBefore m_free (m_waitsLong + 1) m_cutOff m_screen m_stream (upd m_waits m_waitsLong.toNatClampNeg a1)) := hD
  refine lv_iload_n hx hb dX6_send_20 rfl (lv_at hl 1 rfl) ?_
  refine lv_sipush (v := 255) hx hb dX6_send_21 (by decide) ?_
  refine lv_icmp_eq (tgt := 28) hx hb dX6_send_24 (by decide) (fun c_2 => ?_) (fun c_2 => ?_)
  · have hf := (if_pos c_2).symm.trans hf
    refine lv_aload_n hx hb dX6_send_28 rfl (lv_at hl 0 rfl) ?_
    refine va_get (D := (dC, dI)) (ci := 7) (v := .ref hZ) (C := RX6) (T := TX6) (N := 25) hx hb hts uu_X6_send_X6 hown hK hP 0 rfl rfl 22 (by decide) (hts (.fieldLink RX6 24 "BlockScreenModel" "waits" "[I") (List.mem_of_getElem? (i := 1) rfl)) (fun _ h9 => h9) rfl dX6_send_29 ?_
    refine lv_aload_n hx hb dX6_send_32 rfl (lv_at hl 0 rfl) ?_
    refine va_get (D := (dC, dI)) (ci := 7) (v := .int (m_waitsLong + 1)) (C := RX6) (T := TX6) (N := 25) hx hb hts uu_X6_send_X6 hown hK hP 0 rfl rfl 23 (by decide) (hts (.fieldLink RX6 137 "BlockScreenModel" "waitsLong" "I") (List.mem_of_getElem? (i := 2) rfl)) (fun _ h9 => h9) rfl dX6_send_33 ?_
    refine lv_iload_n hx hb dX6_send_36 rfl (lv_at hl 1 rfl) ?_
    rcases Classical.em ((m_waitsLong + 1) < 0 ∨ 23000 ≤ (m_waitsLong + 1).toNatClampNeg) with c_3 | c_3
    · exact nn_abs ((if_pos c_3).symm.trans hf)
    have hf := (if_neg c_3).symm.trans hf
    refine va_iast hx hb hK hP hD hS 3 0 rfl rfl c_3 dX6_send_37 (fun H locs hP hD hS => ?_)
    have hP : va_P (dC, dI) vwCl (wM hM hR hT hZ cI m_allRows m_allColumns m_rows m_columns m_cells m_cursor m_locked m_insert m_alarms m_rejects m_latest m_thrown m_streamLong m_at m_place m_orders m_escaped m_broken m_signBefore m_free (m_waitsLong + 1) m_cutOff m_screen m_stream (upd (upd m_waits m_waitsLong.toNatClampNeg a1) (m_waitsLong + 1).toNatClampNeg a1)) H := hP
    have hD : va_D A (wM hM hR hT hZ cI m_allRows m_allColumns m_rows m_columns m_cells m_cursor m_locked m_insert m_alarms m_rejects m_latest m_thrown m_streamLong m_at m_place m_orders m_escaped m_broken m_signBefore m_free (m_waitsLong + 1) m_cutOff m_screen m_stream (upd (upd m_waits m_waitsLong.toNatClampNeg a1) (m_waitsLong + 1).toNatClampNeg a1)) := hD
    refine lv_aload_n hx hb dX6_send_38 rfl (lv_at hl 0 rfl) ?_
    refine lv_dup hx hb dX6_send_39 rfl ?_
    refine va_get (D := (dC, dI)) (ci := 7) (v := .int (m_waitsLong + 1)) (C := RX6) (T := TX6) (N := 25) hx hb hts uu_X6_send_X6 hown hK hP 0 rfl rfl 23 (by decide) (hts (.fieldLink RX6 137 "BlockScreenModel" "waitsLong" "I") (List.mem_of_getElem? (i := 2) rfl)) (fun _ h9 => h9) rfl dX6_send_40 ?_
    refine lv_iconst (v := 1) hx hb dX6_send_43 (by decide) ?_
    refine lv_iadd hx hb dX6_send_44 ?_
    refine va_put (D := (dC, dI)) (ci := 7) (v := .int ((m_waitsLong + 1) + 1)) (C := RX6) (T := TX6) (N := 25) hx hb hts uu_X6_send_X6 tyX6 tyX6_ok nmX6 hown hK hP hD hS 0 rfl rfl 23 (by decide) (hts (.fieldLink RX6 137 "BlockScreenModel" "waitsLong" "I") (List.mem_of_getElem? (i := 2) rfl)) (fun _ h9 => h9) rfl (tyX6_ok 23 (by decide)) rfl rfl (Nat.le_of_ble_eq_true rfl) dX6_send_45 (fun H locs hP hD hS => ?_)
    have hP : va_P (dC, dI) vwCl (wM hM hR hT hZ cI m_allRows m_allColumns m_rows m_columns m_cells m_cursor m_locked m_insert m_alarms m_rejects m_latest m_thrown m_streamLong m_at m_place m_orders m_escaped m_broken m_signBefore m_free ((m_waitsLong + 1) + 1) m_cutOff m_screen m_stream (upd (upd m_waits m_waitsLong.toNatClampNeg a1) (m_waitsLong + 1).toNatClampNeg a1)) H := hP
    have hD : va_D A (wM hM hR hT hZ cI m_allRows m_allColumns m_rows m_columns m_cells m_cursor m_locked m_insert m_alarms m_rejects m_latest m_thrown m_streamLong m_at m_place m_orders m_escaped m_broken m_signBefore m_free ((m_waitsLong + 1) + 1) m_cutOff m_screen m_stream (upd (upd m_waits m_waitsLong.toNatClampNeg a1) (m_waitsLong + 1).toNatClampNeg a1)) := hD
    have hf := Option.some.inj hf
    subst hf
    exact my_retv () hx hb hr hlocks hK hP hD hS dX6_send_48
  · have hf := (if_neg c_2).symm.trans hf
    have hf := Option.some.inj hf
    subst hf
    exact my_retv () hx hb hr hlocks hK hP hD hS dX6_send_27

theorem uu_X6_sendAddress_X6 : ∀ w ∈ u_ws RX6 TX6 25, w ∈ wsX6_sendAddress := fun _ h => List.mem_cons_of_mem _ (List.mem_append_right _ h)
def f_X6_sendAddress (m_cells : Int32) (m_waitsLong : Int32) (m_waits : Nat → Int32) (a1 : Int32) : Option (Int32 × (Nat → Int32)) :=
    if 4096 < m_cells then
    Option.bind (f_X6_send m_waitsLong m_waits (a1 >>> ((8 : Int32) &&& 31))) (fun (m_waitsLong_2, m_waits_2) =>
    if 4096 < m_cells then
    Option.bind (f_X6_send m_waitsLong_2 m_waits_2 (a1 &&& 255)) (fun (m_waitsLong_4, m_waits_4) =>
    some (m_waitsLong_4, m_waits_4))
    else
    Option.bind (f_X6_send m_waitsLong_2 m_waits_2 (64 + (a1 &&& 63))) (fun (m_waitsLong_5, m_waits_5) =>
    some (m_waitsLong_5, m_waits_5)))
    else
    Option.bind (f_X6_send m_waitsLong m_waits (64 + (a1 >>> ((6 : Int32) &&& 31)))) (fun (m_waitsLong_6, m_waits_6) =>
    if 4096 < m_cells then
    Option.bind (f_X6_send m_waitsLong_6 m_waits_6 (a1 &&& 255)) (fun (m_waitsLong_8, m_waits_8) =>
    some (m_waitsLong_8, m_waits_8))
    else
    Option.bind (f_X6_send m_waitsLong_6 m_waits_6 (64 + (a1 &&& 63))) (fun (m_waitsLong_9, m_waits_9) =>
    some (m_waitsLong_9, m_waits_9)))
set_option maxHeartbeats 400000 in
set_option maxRecDepth 100000 in
theorem c_X6_sendAddress (l : Launch) (dC : Nat → ClassId) (dI : Nat → Nat → Nat) (cI : ClassId) (hM hR hT hZ : Nat) (m_allRows : Int32) (m_allColumns : Int32) (m_rows : Int32) (m_columns : Int32) (m_cells : Int32) (m_cursor : Int32) (m_locked : Bool) (m_insert : Bool) (m_alarms : Int32) (m_rejects : Int32) (m_latest : Int32) (m_thrown : Int32) (m_streamLong : Int32) (m_at : Int32) (m_place : Int32) (m_orders : Int32) (m_escaped : Bool) (m_broken : Bool) (m_signBefore : Bool) (m_free : Bool) (m_waitsLong : Int32) (m_cutOff : Bool) (m_screen : Nat → Int32) (m_stream : Nat → Int32) (m_waits : Nat → Int32) (sz : Nat) (a1 : Int32) (res : Int32 × (Nat → Int32)) (hf : f_X6_sendAddress m_cells m_waitsLong m_waits a1 = some res) : Met l yX6_sendAddress wsX6_sendAddress ({ frames := 1, cells := 0, slots := 0, locals := 21 }) (va_Pc [.ref hM, .int a1] (my_Pre (dC, dI) [(cI, .int)] (wM hM hR hT hZ cI m_allRows m_allColumns m_rows m_columns m_cells m_cursor m_locked m_insert m_alarms m_rejects m_latest m_thrown m_streamLong m_at m_place m_orders m_escaped m_broken m_signBefore m_free m_waitsLong m_cutOff m_screen m_stream m_waits) sz)) (my_Qv (S := Unit) (dC, dI) [(cI, .int)] (fun _ => wM hM hR hT hZ cI m_allRows m_allColumns m_rows m_columns m_cells m_cursor m_locked m_insert m_alarms m_rejects m_latest m_thrown m_streamLong m_at m_place m_orders m_escaped m_broken m_signBefore m_free res.1 m_cutOff m_screen m_stream res.2) (va_A (wM hM hR hT hZ cI m_allRows m_allColumns m_rows m_columns m_cells m_cursor m_locked m_insert m_alarms m_rejects m_latest m_thrown m_streamLong m_at m_place m_orders m_escaped m_broken m_signBefore m_free m_waitsLong m_cutOff m_screen m_stream m_waits) sz)) 0 0 (va_A (wM hM hR hT hZ cI m_allRows m_allColumns m_rows m_columns m_cells m_cursor m_locked m_insert m_alarms m_rejects m_latest m_thrown m_streamLong m_at m_place m_orders m_escaped m_broken m_signBefore m_free m_waitsLong m_cutOff m_screen m_stream m_waits) sz) := by
  refine my_enter (cc := cX6_sendAddress) (maxL := 2) (ret := none) (Qc := my_Qv (S := Unit) (dC, dI) [(cI, .int)] (fun _ => wM hM hR hT hZ cI m_allRows m_allColumns m_rows m_columns m_cells m_cursor m_locked m_insert m_alarms m_rejects m_latest m_thrown m_streamLong m_at m_place m_orders m_escaped m_broken m_signBefore m_free res.1 m_cutOff m_screen m_stream res.2)) (by decide) rfl (Nat.le_of_ble_eq_true rfl) ?_
  intro p e s m below meth c A ls hx hb hr hml hts hown hlocks hnm hP hK hD hA hS hl
  have hown : s.vm.findClass RX6 = some m.cls := hown
  have hl : lv_has ls 2 [(0, .ref hM), (1, .int a1)] := hl
  unfold f_X6_sendAddress at hf
  refine lv_aload_n hx hb dX6_sendAddress_0 rfl (lv_at hl 0 rfl) ?_
  refine lv_aload_n hx hb dX6_sendAddress_1 rfl (lv_at hl 0 rfl) ?_
  refine va_get (D := (dC, dI)) (ci := 7) (v := .int m_cells) (C := RX6) (T := TX6) (N := 25) hx hb hts uu_X6_sendAddress_X6 hown hK hP 0 rfl rfl 4 (by decide) (hts (.fieldLink RX6 46 "BlockScreenModel" "cells" "I") (List.mem_of_getElem? (i := 1) rfl)) (fun _ h9 => h9) rfl dX6_sendAddress_2 ?_
  refine lv_sipush (v := 4096) hx hb dX6_sendAddress_5 (by decide) ?_
  refine lv_icmp_gt (tgt := 21) hx hb dX6_sendAddress_8 (by decide) (fun c_1 => ?_) (fun c_1 => ?_)
  · have hf := (if_pos c_1).symm.trans hf
    refine lv_iload_n hx hb dX6_sendAddress_21 rfl (lv_at hl 1 rfl) ?_
    refine lv_bipush (v := 8) hx hb dX6_sendAddress_22 (by decide) ?_
    refine lv_ishr hx hb dX6_sendAddress_24 ?_
    obtain ⟨⟨m_waitsLong_2, m_waits_2⟩, hq_2, hf⟩ := ob_inv hf
    refine my_cVv (As := [.int (a1 >>> ((8 : Int32) &&& 31))]) (rest := []) ⟨hx, hb, hml, hown, hts⟩ (c_X6_send l dC dI cI hM hR hT hZ m_allRows m_allColumns m_rows m_columns m_cells m_cursor m_locked m_insert m_alarms m_rejects m_latest m_thrown m_streamLong m_at m_place m_orders m_escaped m_broken m_signBefore m_free m_waitsLong m_cutOff m_screen m_stream m_waits _ (a1 >>> ((8 : Int32) &&& 31)) (m_waitsLong_2, m_waits_2) hq_2) (cwV 1 hts gX6_sendAddress_X6_send rfl rfl rfl (by decide +kernel) ⟨Nat.le_of_ble_eq_true rfl, Nat.le_of_ble_eq_true rfl⟩) hK hP hD hS hA 0 7 rfl rfl rfl hl.1 rfl (Nat.le_of_ble_eq_true rfl) dX6_sendAddress_25 ⟨Nat.zero_le _, Nat.zero_le _⟩ (fun _ H locs hP hD hS => ?_)
    have hP : va_P (dC, dI) vwCl (wM hM hR hT hZ cI m_allRows m_allColumns m_rows m_columns m_cells m_cursor m_locked m_insert m_alarms m_rejects m_latest m_thrown m_streamLong m_at m_place m_orders m_escaped m_broken m_signBefore m_free m_waitsLong_2 m_cutOff m_screen m_stream m_waits_2) H := hP
    have hD : va_D A (wM hM hR hT hZ cI m_allRows m_allColumns m_rows m_columns m_cells m_cursor m_locked m_insert m_alarms m_rejects m_latest m_thrown m_streamLong m_at m_place m_orders m_escaped m_broken m_signBefore m_free m_waitsLong_2 m_cutOff m_screen m_stream m_waits_2) := hD
    refine lv_aload_n hx hb dX6_sendAddress_28 rfl (lv_at hl 0 rfl) ?_
    refine lv_aload_n hx hb dX6_sendAddress_29 rfl (lv_at hl 0 rfl) ?_
    refine va_get (D := (dC, dI)) (ci := 7) (v := .int m_cells) (C := RX6) (T := TX6) (N := 25) hx hb hts uu_X6_sendAddress_X6 hown hK hP 0 rfl rfl 4 (by decide) (hts (.fieldLink RX6 46 "BlockScreenModel" "cells" "I") (List.mem_of_getElem? (i := 1) rfl)) (fun _ h9 => h9) rfl dX6_sendAddress_30 ?_
    refine lv_sipush (v := 4096) hx hb dX6_sendAddress_33 (by decide) ?_
    refine lv_icmp_gt (tgt := 49) hx hb dX6_sendAddress_36 (by decide) (fun c_3 => ?_) (fun c_3 => ?_)
    · have hf := (if_pos c_3).symm.trans hf
      refine lv_iload_n hx hb dX6_sendAddress_49 rfl (lv_at hl 1 rfl) ?_
      refine lv_sipush (v := 255) hx hb dX6_sendAddress_50 (by decide) ?_
      refine lv_iand hx hb dX6_sendAddress_53 ?_
      obtain ⟨⟨m_waitsLong_4, m_waits_4⟩, hq_4, hf⟩ := ob_inv hf
      refine my_cVv (As := [.int (a1 &&& 255)]) (rest := []) ⟨hx, hb, hml, hown, hts⟩ (c_X6_send l dC dI cI hM hR hT hZ m_allRows m_allColumns m_rows m_columns m_cells m_cursor m_locked m_insert m_alarms m_rejects m_latest m_thrown m_streamLong m_at m_place m_orders m_escaped m_broken m_signBefore m_free m_waitsLong_2 m_cutOff m_screen m_stream m_waits_2 _ (a1 &&& 255) (m_waitsLong_4, m_waits_4) hq_4) (cwV 1 hts gX6_sendAddress_X6_send rfl rfl rfl (by decide +kernel) ⟨Nat.le_of_ble_eq_true rfl, Nat.le_of_ble_eq_true rfl⟩) hK hP hD hS hA 0 7 rfl rfl rfl hl.1 rfl (Nat.le_of_ble_eq_true rfl) dX6_sendAddress_54 ⟨Nat.zero_le _, Nat.zero_le _⟩ (fun _ H locs hP hD hS => ?_)
      have hP : va_P (dC, dI) vwCl (wM hM hR hT hZ cI m_allRows m_allColumns m_rows m_columns m_cells m_cursor m_locked m_insert m_alarms m_rejects m_latest m_thrown m_streamLong m_at m_place m_orders m_escaped m_broken m_signBefore m_free m_waitsLong_4 m_cutOff m_screen m_stream m_waits_4) H := hP
      have hD : va_D A (wM hM hR hT hZ cI m_allRows m_allColumns m_rows m_columns m_cells m_cursor m_locked m_insert m_alarms m_rejects m_latest m_thrown m_streamLong m_at m_place m_orders m_escaped m_broken m_signBefore m_free m_waitsLong_4 m_cutOff m_screen m_stream m_waits_4) := hD
      have hf := Option.some.inj hf
      subst hf
      exact my_retv () hx hb hr hlocks hK hP hD hS dX6_sendAddress_57
    · have hf := (if_neg c_3).symm.trans hf
      refine lv_bipush (v := 64) hx hb dX6_sendAddress_39 (by decide) ?_
      refine lv_iload_n hx hb dX6_sendAddress_41 rfl (lv_at hl 1 rfl) ?_
      refine lv_bipush (v := 63) hx hb dX6_sendAddress_42 (by decide) ?_
      refine lv_iand hx hb dX6_sendAddress_44 ?_
      refine lv_iadd hx hb dX6_sendAddress_45 ?_
      refine lv_goto (tgt := 54) hx hb dX6_sendAddress_46 (by decide) ?_
      obtain ⟨⟨m_waitsLong_5, m_waits_5⟩, hq_5, hf⟩ := ob_inv hf
      refine my_cVv (As := [.int (64 + (a1 &&& 63))]) (rest := []) ⟨hx, hb, hml, hown, hts⟩ (c_X6_send l dC dI cI hM hR hT hZ m_allRows m_allColumns m_rows m_columns m_cells m_cursor m_locked m_insert m_alarms m_rejects m_latest m_thrown m_streamLong m_at m_place m_orders m_escaped m_broken m_signBefore m_free m_waitsLong_2 m_cutOff m_screen m_stream m_waits_2 _ (64 + (a1 &&& 63)) (m_waitsLong_5, m_waits_5) hq_5) (cwV 1 hts gX6_sendAddress_X6_send rfl rfl rfl (by decide +kernel) ⟨Nat.le_of_ble_eq_true rfl, Nat.le_of_ble_eq_true rfl⟩) hK hP hD hS hA 0 7 rfl rfl rfl hl.1 rfl (Nat.le_of_ble_eq_true rfl) dX6_sendAddress_54 ⟨Nat.zero_le _, Nat.zero_le _⟩ (fun _ H locs hP hD hS => ?_)
      have hP : va_P (dC, dI) vwCl (wM hM hR hT hZ cI m_allRows m_allColumns m_rows m_columns m_cells m_cursor m_locked m_insert m_alarms m_rejects m_latest m_thrown m_streamLong m_at m_place m_orders m_escaped m_broken m_signBefore m_free m_waitsLong_5 m_cutOff m_screen m_stream m_waits_5) H := hP
      have hD : va_D A (wM hM hR hT hZ cI m_allRows m_allColumns m_rows m_columns m_cells m_cursor m_locked m_insert m_alarms m_rejects m_latest m_thrown m_streamLong m_at m_place m_orders m_escaped m_broken m_signBefore m_free m_waitsLong_5 m_cutOff m_screen m_stream m_waits_5) := hD
      have hf := Option.some.inj hf
      subst hf
      exact my_retv () hx hb hr hlocks hK hP hD hS dX6_sendAddress_57
  · have hf := (if_neg c_1).symm.trans hf
    refine lv_bipush (v := 64) hx hb dX6_sendAddress_11 (by decide) ?_
    refine lv_iload_n hx hb dX6_sendAddress_13 rfl (lv_at hl 1 rfl) ?_
    refine lv_bipush (v := 6) hx hb dX6_sendAddress_14 (by decide) ?_
    refine lv_ishr hx hb dX6_sendAddress_16 ?_
    refine lv_iadd hx hb dX6_sendAddress_17 ?_
    refine lv_goto (tgt := 25) hx hb dX6_sendAddress_18 (by decide) ?_
    obtain ⟨⟨m_waitsLong_6, m_waits_6⟩, hq_6, hf⟩ := ob_inv hf
    refine my_cVv (As := [.int (64 + (a1 >>> ((6 : Int32) &&& 31)))]) (rest := []) ⟨hx, hb, hml, hown, hts⟩ (c_X6_send l dC dI cI hM hR hT hZ m_allRows m_allColumns m_rows m_columns m_cells m_cursor m_locked m_insert m_alarms m_rejects m_latest m_thrown m_streamLong m_at m_place m_orders m_escaped m_broken m_signBefore m_free m_waitsLong m_cutOff m_screen m_stream m_waits _ (64 + (a1 >>> ((6 : Int32) &&& 31))) (m_waitsLong_6, m_waits_6) hq_6) (cwV 1 hts gX6_sendAddress_X6_send rfl rfl rfl (by decide +kernel) ⟨Nat.le_of_ble_eq_true rfl, Nat.le_of_ble_eq_true rfl⟩) hK hP hD hS hA 0 7 rfl rfl rfl hl.1 rfl (Nat.le_of_ble_eq_true rfl) dX6_sendAddress_25 ⟨Nat.zero_le _, Nat.zero_le _⟩ (fun _ H locs hP hD hS => ?_)
    have hP : va_P (dC, dI) vwCl (wM hM hR hT hZ cI m_allRows m_allColumns m_rows m_columns m_cells m_cursor m_locked m_insert m_alarms m_rejects m_latest m_thrown m_streamLong m_at m_place m_orders m_escaped m_broken m_signBefore m_free m_waitsLong_6 m_cutOff m_screen m_stream m_waits_6) H := hP
    have hD : va_D A (wM hM hR hT hZ cI m_allRows m_allColumns m_rows m_columns m_cells m_cursor m_locked m_insert m_alarms m_rejects m_latest m_thrown m_streamLong m_at m_place m_orders m_escaped m_broken m_signBefore m_free m_waitsLong_6 m_cutOff m_screen m_stream m_waits_6) := hD
    refine lv_aload_n hx hb dX6_sendAddress_28 rfl (lv_at hl 0 rfl) ?_
    refine lv_aload_n hx hb dX6_sendAddress_29 rfl (lv_at hl 0 rfl) ?_
    refine va_get (D := (dC, dI)) (ci := 7) (v := .int m_cells) (C := RX6) (T := TX6) (N := 25) hx hb hts uu_X6_sendAddress_X6 hown hK hP 0 rfl rfl 4 (by decide) (hts (.fieldLink RX6 46 "BlockScreenModel" "cells" "I") (List.mem_of_getElem? (i := 1) rfl)) (fun _ h9 => h9) rfl dX6_sendAddress_30 ?_
    refine lv_sipush (v := 4096) hx hb dX6_sendAddress_33 (by decide) ?_
    refine lv_icmp_gt (tgt := 49) hx hb dX6_sendAddress_36 (by decide) (fun c_7 => ?_) (fun c_7 => ?_)
    · have hf := (if_pos c_7).symm.trans hf
      refine lv_iload_n hx hb dX6_sendAddress_49 rfl (lv_at hl 1 rfl) ?_
      refine lv_sipush (v := 255) hx hb dX6_sendAddress_50 (by decide) ?_
      refine lv_iand hx hb dX6_sendAddress_53 ?_
      obtain ⟨⟨m_waitsLong_8, m_waits_8⟩, hq_8, hf⟩ := ob_inv hf
      refine my_cVv (As := [.int (a1 &&& 255)]) (rest := []) ⟨hx, hb, hml, hown, hts⟩ (c_X6_send l dC dI cI hM hR hT hZ m_allRows m_allColumns m_rows m_columns m_cells m_cursor m_locked m_insert m_alarms m_rejects m_latest m_thrown m_streamLong m_at m_place m_orders m_escaped m_broken m_signBefore m_free m_waitsLong_6 m_cutOff m_screen m_stream m_waits_6 _ (a1 &&& 255) (m_waitsLong_8, m_waits_8) hq_8) (cwV 1 hts gX6_sendAddress_X6_send rfl rfl rfl (by decide +kernel) ⟨Nat.le_of_ble_eq_true rfl, Nat.le_of_ble_eq_true rfl⟩) hK hP hD hS hA 0 7 rfl rfl rfl hl.1 rfl (Nat.le_of_ble_eq_true rfl) dX6_sendAddress_54 ⟨Nat.zero_le _, Nat.zero_le _⟩ (fun _ H locs hP hD hS => ?_)
      have hP : va_P (dC, dI) vwCl (wM hM hR hT hZ cI m_allRows m_allColumns m_rows m_columns m_cells m_cursor m_locked m_insert m_alarms m_rejects m_latest m_thrown m_streamLong m_at m_place m_orders m_escaped m_broken m_signBefore m_free m_waitsLong_8 m_cutOff m_screen m_stream m_waits_8) H := hP
      have hD : va_D A (wM hM hR hT hZ cI m_allRows m_allColumns m_rows m_columns m_cells m_cursor m_locked m_insert m_alarms m_rejects m_latest m_thrown m_streamLong m_at m_place m_orders m_escaped m_broken m_signBefore m_free m_waitsLong_8 m_cutOff m_screen m_stream m_waits_8) := hD
      have hf := Option.some.inj hf
      subst hf
      exact my_retv () hx hb hr hlocks hK hP hD hS dX6_sendAddress_57
    · have hf := (if_neg c_7).symm.trans hf
      refine lv_bipush (v := 64) hx hb dX6_sendAddress_39 (by decide) ?_
      refine lv_iload_n hx hb dX6_sendAddress_41 rfl (lv_at hl 1 rfl) ?_
      refine lv_bipush (v := 63) hx hb dX6_sendAddress_42 (by decide) ?_
      refine lv_iand hx hb dX6_sendAddress_44 ?_
      refine lv_iadd hx hb dX6_sendAddress_45 ?_
      refine lv_goto (tgt := 54) hx hb dX6_sendAddress_46 (by decide) ?_
      obtain ⟨⟨m_waitsLong_9, m_waits_9⟩, hq_9, hf⟩ := ob_inv hf
      refine my_cVv (As := [.int (64 + (a1 &&& 63))]) (rest := []) ⟨hx, hb, hml, hown, hts⟩ (c_X6_send l dC dI cI hM hR hT hZ m_allRows m_allColumns m_rows m_columns m_cells m_cursor m_locked m_insert m_alarms m_rejects m_latest m_thrown m_streamLong m_at m_place m_orders m_escaped m_broken m_signBefore m_free m_waitsLong_6 m_cutOff m_screen m_stream m_waits_6 _ (64 + (a1 &&& 63)) (m_waitsLong_9, m_waits_9) hq_9) (cwV 1 hts gX6_sendAddress_X6_send rfl rfl rfl (by decide +kernel) ⟨Nat.le_of_ble_eq_true rfl, Nat.le_of_ble_eq_true rfl⟩) hK hP hD hS hA 0 7 rfl rfl rfl hl.1 rfl (Nat.le_of_ble_eq_true rfl) dX6_sendAddress_54 ⟨Nat.zero_le _, Nat.zero_le _⟩ (fun _ H locs hP hD hS => ?_)
      have hP : va_P (dC, dI) vwCl (wM hM hR hT hZ cI m_allRows m_allColumns m_rows m_columns m_cells m_cursor m_locked m_insert m_alarms m_rejects m_latest m_thrown m_streamLong m_at m_place m_orders m_escaped m_broken m_signBefore m_free m_waitsLong_9 m_cutOff m_screen m_stream m_waits_9) H := hP
      have hD : va_D A (wM hM hR hT hZ cI m_allRows m_allColumns m_rows m_columns m_cells m_cursor m_locked m_insert m_alarms m_rejects m_latest m_thrown m_streamLong m_at m_place m_orders m_escaped m_broken m_signBefore m_free m_waitsLong_9 m_cutOff m_screen m_stream m_waits_9) := hD
      have hf := Option.some.inj hf
      subst hf
      exact my_retv () hx hb hr hlocks hK hP hD hS dX6_sendAddress_57

theorem uu_X6_sendField_X6 : ∀ w ∈ u_ws RX6 TX6 25, w ∈ wsX6_sendField := fun _ h => List.mem_cons_of_mem _ (List.mem_append_right _ h)
def f_X6_sendField_L19 (m_cells : Int32) (m_screen : Nat → Int32) : Nat → Int32 → Int32 → Int32 → (Nat → Int32) → Option (Int32 × (Nat → Int32))
  | 0, _, _, _, _ => none
  | fu + 1, v1, v2, z_m_waitsLong, z_m_waits =>
    if m_cells ≤ v2 then
    some (z_m_waitsLong, z_m_waits)
    else
    Option.bind (f_X6_round m_cells (v1 + v2)) (fun r_2 =>
    Option.bind (f_X6_isAttribute m_screen r_2) (fun r_3 =>
    if (b2i r_3) = 0 then
    Option.bind (f_X6_round m_cells (v1 + v2)) (fun r_5 =>
    if r_5 < 0 ∨ 5676 ≤ r_5.toNatClampNeg then none else
    if (m_screen r_5.toNatClampNeg) = 0 then
    f_X6_sendField_L19 m_cells m_screen fu v1 (v2 + 1) z_m_waitsLong z_m_waits
    else
    Option.bind (f_X6_round m_cells (v1 + v2)) (fun r_8 =>
    if r_8 < 0 ∨ 5676 ≤ r_8.toNatClampNeg then none else
    Option.bind (f_X6_send z_m_waitsLong z_m_waits (m_screen r_8.toNatClampNeg)) (fun (m_waitsLong_10, m_waits_10) =>
    f_X6_sendField_L19 m_cells m_screen fu v1 (v2 + 1) m_waitsLong_10 m_waits_10)))
    else
    some (z_m_waitsLong, z_m_waits)))
def f_X6_sendField (m_cells : Int32) (m_waitsLong : Int32) (m_screen : Nat → Int32) (m_waits : Nat → Int32) (a1 : Int32) : Option (Int32 × (Nat → Int32)) :=
    Option.bind (f_X6_send m_waitsLong m_waits 17) (fun (m_waitsLong_11, m_waits_11) =>
    Option.bind (f_X6_round m_cells (a1 + 1)) (fun r_12 =>
    Option.bind (f_X6_sendAddress m_cells m_waitsLong_11 m_waits_11 r_12) (fun (m_waitsLong_13, m_waits_13) =>
    f_X6_sendField_L19 m_cells m_screen FU a1 1 m_waitsLong_13 m_waits_13)))
set_option maxHeartbeats 400000 in
set_option maxRecDepth 100000 in
theorem c_X6_sendField (l : Launch) (dC : Nat → ClassId) (dI : Nat → Nat → Nat) (cI : ClassId) (hM hR hT hZ : Nat) (m_allRows : Int32) (m_allColumns : Int32) (m_rows : Int32) (m_columns : Int32) (m_cells : Int32) (m_cursor : Int32) (m_locked : Bool) (m_insert : Bool) (m_alarms : Int32) (m_rejects : Int32) (m_latest : Int32) (m_thrown : Int32) (m_streamLong : Int32) (m_at : Int32) (m_place : Int32) (m_orders : Int32) (m_escaped : Bool) (m_broken : Bool) (m_signBefore : Bool) (m_free : Bool) (m_waitsLong : Int32) (m_cutOff : Bool) (m_screen : Nat → Int32) (m_stream : Nat → Int32) (m_waits : Nat → Int32) (sz : Nat) (a1 : Int32) (res : Int32 × (Nat → Int32)) (hf : f_X6_sendField m_cells m_waitsLong m_screen m_waits a1 = some res) : Met l yX6_sendField wsX6_sendField ({ frames := 2, cells := 0, slots := 0, locals := 42 }) (va_Pc [.ref hM, .int a1] (my_Pre (dC, dI) [(cI, .int)] (wM hM hR hT hZ cI m_allRows m_allColumns m_rows m_columns m_cells m_cursor m_locked m_insert m_alarms m_rejects m_latest m_thrown m_streamLong m_at m_place m_orders m_escaped m_broken m_signBefore m_free m_waitsLong m_cutOff m_screen m_stream m_waits) sz)) (my_Qv (S := Unit) (dC, dI) [(cI, .int)] (fun _ => wM hM hR hT hZ cI m_allRows m_allColumns m_rows m_columns m_cells m_cursor m_locked m_insert m_alarms m_rejects m_latest m_thrown m_streamLong m_at m_place m_orders m_escaped m_broken m_signBefore m_free res.1 m_cutOff m_screen m_stream res.2) (va_A (wM hM hR hT hZ cI m_allRows m_allColumns m_rows m_columns m_cells m_cursor m_locked m_insert m_alarms m_rejects m_latest m_thrown m_streamLong m_at m_place m_orders m_escaped m_broken m_signBefore m_free m_waitsLong m_cutOff m_screen m_stream m_waits) sz)) 0 0 (va_A (wM hM hR hT hZ cI m_allRows m_allColumns m_rows m_columns m_cells m_cursor m_locked m_insert m_alarms m_rejects m_latest m_thrown m_streamLong m_at m_place m_orders m_escaped m_broken m_signBefore m_free m_waitsLong m_cutOff m_screen m_stream m_waits) sz) := by
  refine my_enter (cc := cX6_sendField) (maxL := 3) (ret := none) (Qc := my_Qv (S := Unit) (dC, dI) [(cI, .int)] (fun _ => wM hM hR hT hZ cI m_allRows m_allColumns m_rows m_columns m_cells m_cursor m_locked m_insert m_alarms m_rejects m_latest m_thrown m_streamLong m_at m_place m_orders m_escaped m_broken m_signBefore m_free res.1 m_cutOff m_screen m_stream res.2)) (by decide) rfl (Nat.le_of_ble_eq_true rfl) ?_
  intro p e s m below meth c A ls hx hb hr hml hts hown hlocks hnm hP hK hD hA hS hl
  have hown : s.vm.findClass RX6 = some m.cls := hown
  have hl : lv_has ls 3 [(0, .ref hM), (1, .int a1)] := hl
  have L19 : ∀ (fu : Nat) (v1 : Int32) (v2 : Int32) (z_m_waitsLong : Int32) (z_m_waits : Nat → Int32)  (H : Heap) (locs : List Loc), f_X6_sendField_L19 m_cells m_screen fu v1 v2 z_m_waitsLong z_m_waits = some res → va_P (dC, dI) vwCl (wM hM hR hT hZ cI m_allRows m_allColumns m_rows m_columns m_cells m_cursor m_locked m_insert m_alarms m_rejects m_latest m_thrown m_streamLong m_at m_place m_orders m_escaped m_broken m_signBefore m_free z_m_waitsLong m_cutOff m_screen m_stream z_m_waits) H → va_D A (wM hM hR hT hZ cI m_allRows m_allColumns m_rows m_columns m_cells m_cursor m_locked m_insert m_alarms m_rejects m_latest m_thrown m_streamLong m_at m_place m_orders m_escaped m_broken m_signBefore m_free z_m_waitsLong m_cutOff m_screen m_stream z_m_waits) → va_S A s.heap H locs → ∀ (ls : Array Slot), lv_has ls 3 [(0, .ref hM), (1, .int v1), (2, .int v2)] → W p l e (headSpec wsX6_sendField ({ frames := 2, cells := 0, slots := 0, locals := 42 })).room s m ([.ref hM, .int a1] : List Value).toArray below meth c H locs 0 0 (MQ below (my_Qv (S := Unit) (dC, dI) [(cI, .int)] (fun _ => wM hM hR hT hZ cI m_allRows m_allColumns m_rows m_columns m_cells m_cursor m_locked m_insert m_alarms m_rejects m_latest m_thrown m_streamLong m_at m_place m_orders m_escaped m_broken m_signBefore m_free res.1 m_cutOff m_screen m_stream res.2) A) ([.ref hM, .int a1] : List Value).toArray s 0 0 A) (F0 m 19 ls []) := by
    intro fu
    induction fu with
    | zero =>
      intro v1 v2 z_m_waitsLong z_m_waits H locs hf
      rw [f_X6_sendField_L19.eq_1] at hf
      cases hf
    | succ fu ih =>
      intro v1 v2 z_m_waitsLong z_m_waits H locs hf  hP hD hS ls hl
      rw [f_X6_sendField_L19.eq_2] at hf
      refine lv_iload_n hx hb dX6_sendField_19 rfl (lv_at hl 2 rfl) ?_
      refine lv_aload_n hx hb dX6_sendField_20 rfl (lv_at hl 0 rfl) ?_
      refine va_get (D := (dC, dI)) (ci := 7) (v := .int m_cells) (C := RX6) (T := TX6) (N := 25) hx hb hts uu_X6_sendField_X6 hown hK hP 0 rfl rfl 4 (by decide) (hts (.fieldLink RX6 46 "BlockScreenModel" "cells" "I") (List.mem_of_getElem? (i := 1) rfl)) (fun _ h9 => h9) rfl dX6_sendField_21 ?_
      refine lv_icmp_ge (tgt := 78) hx hb dX6_sendField_24 (by decide) (fun c_1 => ?_) (fun c_1 => ?_)
      · have hf := (if_pos c_1).symm.trans hf
        have hf := Option.some.inj hf
        subst hf
        exact my_retv () hx hb hr hlocks hK hP hD hS dX6_sendField_78
      · have hf := (if_neg c_1).symm.trans hf
        refine lv_aload_n hx hb dX6_sendField_27 rfl (lv_at hl 0 rfl) ?_
        refine lv_aload_n hx hb dX6_sendField_28 rfl (lv_at hl 0 rfl) ?_
        refine lv_iload_n hx hb dX6_sendField_29 rfl (lv_at hl 1 rfl) ?_
        refine lv_iload_n hx hb dX6_sendField_30 rfl (lv_at hl 2 rfl) ?_
        refine lv_iadd hx hb dX6_sendField_31 ?_
        obtain ⟨r_2, hq_2, hf⟩ := ob_inv hf
        refine my_cVi (As := [.int (v1 + v2)]) (rest := [.ref hM]) ⟨hx, hb, hml, hown, hts⟩ (c_X6_round l dC dI cI hM hR hT hZ m_allRows m_allColumns m_rows m_columns m_cells m_cursor m_locked m_insert m_alarms m_rejects m_latest m_thrown m_streamLong m_at m_place m_orders m_escaped m_broken m_signBefore m_free z_m_waitsLong m_cutOff m_screen m_stream z_m_waits _ (v1 + v2) r_2 hq_2) (cwV 1 hts gX6_sendField_X6_round rfl rfl rfl (by decide +kernel) ⟨Nat.le_of_ble_eq_true rfl, Nat.le_of_ble_eq_true rfl⟩) hK hP hD hS hA 0 7 rfl rfl rfl hl.1 rfl (Nat.le_of_ble_eq_true rfl) dX6_sendField_32 ⟨Nat.zero_le _, Nat.zero_le _⟩ (fun _ H locs hP hD hS => ?_)
        have hP : va_P (dC, dI) vwCl (wM hM hR hT hZ cI m_allRows m_allColumns m_rows m_columns m_cells m_cursor m_locked m_insert m_alarms m_rejects m_latest m_thrown m_streamLong m_at m_place m_orders m_escaped m_broken m_signBefore m_free z_m_waitsLong m_cutOff m_screen m_stream z_m_waits) H := hP
        have hD : va_D A (wM hM hR hT hZ cI m_allRows m_allColumns m_rows m_columns m_cells m_cursor m_locked m_insert m_alarms m_rejects m_latest m_thrown m_streamLong m_at m_place m_orders m_escaped m_broken m_signBefore m_free z_m_waitsLong m_cutOff m_screen m_stream z_m_waits) := hD
        obtain ⟨r_3, hq_3, hf⟩ := ob_inv hf
        refine my_cVi (As := [.int r_2]) (rest := []) ⟨hx, hb, hml, hown, hts⟩ (c_X6_isAttribute l dC dI cI hM hR hT hZ m_allRows m_allColumns m_rows m_columns m_cells m_cursor m_locked m_insert m_alarms m_rejects m_latest m_thrown m_streamLong m_at m_place m_orders m_escaped m_broken m_signBefore m_free z_m_waitsLong m_cutOff m_screen m_stream z_m_waits _ r_2 r_3 hq_3) (cwV 1 hts gX6_sendField_X6_isAttribute rfl rfl rfl (by decide +kernel) ⟨Nat.le_of_ble_eq_true rfl, Nat.le_of_ble_eq_true rfl⟩) hK hP hD hS hA 0 7 rfl rfl rfl hl.1 rfl (Nat.le_of_ble_eq_true rfl) dX6_sendField_35 ⟨Nat.zero_le _, Nat.zero_le _⟩ (fun _ H locs hP hD hS => ?_)
        have hP : va_P (dC, dI) vwCl (wM hM hR hT hZ cI m_allRows m_allColumns m_rows m_columns m_cells m_cursor m_locked m_insert m_alarms m_rejects m_latest m_thrown m_streamLong m_at m_place m_orders m_escaped m_broken m_signBefore m_free z_m_waitsLong m_cutOff m_screen m_stream z_m_waits) H := hP
        have hD : va_D A (wM hM hR hT hZ cI m_allRows m_allColumns m_rows m_columns m_cells m_cursor m_locked m_insert m_alarms m_rejects m_latest m_thrown m_streamLong m_at m_place m_orders m_escaped m_broken m_signBefore m_free z_m_waitsLong m_cutOff m_screen m_stream z_m_waits) := hD
        refine lv_if_ne (tgt := 78) hx hb dX6_sendField_38 (by decide) (fun c_4 => ?_) (fun c_4 => ?_)
        · have hf := (if_neg c_4).symm.trans hf
          have hf := Option.some.inj hf
          subst hf
          exact my_retv () hx hb hr hlocks hK hP hD hS dX6_sendField_78
        · have hf := (if_pos c_4).symm.trans hf
          refine lv_aload_n hx hb dX6_sendField_41 rfl (lv_at hl 0 rfl) ?_
          refine va_get (D := (dC, dI)) (ci := 7) (v := .ref hR) (C := RX6) (T := TX6) (N := 25) hx hb hts uu_X6_sendField_X6 hown hK hP 0 rfl rfl 6 (by decide) (hts (.fieldLink RX6 7 "BlockScreenModel" "screen" "[I") (List.mem_of_getElem? (i := 2) rfl)) (fun _ h9 => h9) rfl dX6_sendField_42 ?_
          refine lv_aload_n hx hb dX6_sendField_45 rfl (lv_at hl 0 rfl) ?_
          refine lv_iload_n hx hb dX6_sendField_46 rfl (lv_at hl 1 rfl) ?_
          refine lv_iload_n hx hb dX6_sendField_47 rfl (lv_at hl 2 rfl) ?_
          refine lv_iadd hx hb dX6_sendField_48 ?_
          obtain ⟨r_5, hq_5, hf⟩ := ob_inv hf
          refine my_cVi (As := [.int (v1 + v2)]) (rest := [.ref hR]) ⟨hx, hb, hml, hown, hts⟩ (c_X6_round l dC dI cI hM hR hT hZ m_allRows m_allColumns m_rows m_columns m_cells m_cursor m_locked m_insert m_alarms m_rejects m_latest m_thrown m_streamLong m_at m_place m_orders m_escaped m_broken m_signBefore m_free z_m_waitsLong m_cutOff m_screen m_stream z_m_waits _ (v1 + v2) r_5 hq_5) (cwV 1 hts gX6_sendField_X6_round rfl rfl rfl (by decide +kernel) ⟨Nat.le_of_ble_eq_true rfl, Nat.le_of_ble_eq_true rfl⟩) hK hP hD hS hA 0 7 rfl rfl rfl hl.1 rfl (Nat.le_of_ble_eq_true rfl) dX6_sendField_49 ⟨Nat.zero_le _, Nat.zero_le _⟩ (fun _ H locs hP hD hS => ?_)
          have hP : va_P (dC, dI) vwCl (wM hM hR hT hZ cI m_allRows m_allColumns m_rows m_columns m_cells m_cursor m_locked m_insert m_alarms m_rejects m_latest m_thrown m_streamLong m_at m_place m_orders m_escaped m_broken m_signBefore m_free z_m_waitsLong m_cutOff m_screen m_stream z_m_waits) H := hP
          have hD : va_D A (wM hM hR hT hZ cI m_allRows m_allColumns m_rows m_columns m_cells m_cursor m_locked m_insert m_alarms m_rejects m_latest m_thrown m_streamLong m_at m_place m_orders m_escaped m_broken m_signBefore m_free z_m_waitsLong m_cutOff m_screen m_stream z_m_waits) := hD
          rcases Classical.em (r_5 < 0 ∨ 5676 ≤ r_5.toNatClampNeg) with c_6 | c_6
          · exact nn_abs ((if_pos c_6).symm.trans hf)
          have hf := (if_neg c_6).symm.trans hf
          refine va_iald hx hb hK hP 1 0 rfl rfl c_6 dX6_sendField_52 ?_
          refine lv_if_eq (tgt := 72) hx hb dX6_sendField_53 (by decide) (fun c_7 => ?_) (fun c_7 => ?_)
          · have hf := (if_pos c_7).symm.trans hf
            refine lv_iinc (v := v2 + 1) (lv' := [(2, .int (v2 + 1)), (0, .ref hM), (1, .int v1)]) hx hb dX6_sendField_72 hl (k := 2) rfl rfl (by decide) rfl (fun ls hl => ?_)
            refine lv_goto (tgt := 19) hx hb dX6_sendField_75 (by decide) ?_
            exact ih v1 (v2 + 1) z_m_waitsLong z_m_waits _ _ hf  hP hD hS ls (lv_sub hl [1, 2, 0] rfl)
          · have hf := (if_neg c_7).symm.trans hf
            refine lv_aload_n hx hb dX6_sendField_56 rfl (lv_at hl 0 rfl) ?_
            refine lv_aload_n hx hb dX6_sendField_57 rfl (lv_at hl 0 rfl) ?_
            refine va_get (D := (dC, dI)) (ci := 7) (v := .ref hR) (C := RX6) (T := TX6) (N := 25) hx hb hts uu_X6_sendField_X6 hown hK hP 0 rfl rfl 6 (by decide) (hts (.fieldLink RX6 7 "BlockScreenModel" "screen" "[I") (List.mem_of_getElem? (i := 2) rfl)) (fun _ h9 => h9) rfl dX6_sendField_58 ?_
            refine lv_aload_n hx hb dX6_sendField_61 rfl (lv_at hl 0 rfl) ?_
            refine lv_iload_n hx hb dX6_sendField_62 rfl (lv_at hl 1 rfl) ?_
            refine lv_iload_n hx hb dX6_sendField_63 rfl (lv_at hl 2 rfl) ?_
            refine lv_iadd hx hb dX6_sendField_64 ?_
            obtain ⟨r_8, hq_8, hf⟩ := ob_inv hf
            refine my_cVi (As := [.int (v1 + v2)]) (rest := [.ref hR, .ref hM]) ⟨hx, hb, hml, hown, hts⟩ (c_X6_round l dC dI cI hM hR hT hZ m_allRows m_allColumns m_rows m_columns m_cells m_cursor m_locked m_insert m_alarms m_rejects m_latest m_thrown m_streamLong m_at m_place m_orders m_escaped m_broken m_signBefore m_free z_m_waitsLong m_cutOff m_screen m_stream z_m_waits _ (v1 + v2) r_8 hq_8) (cwV 1 hts gX6_sendField_X6_round rfl rfl rfl (by decide +kernel) ⟨Nat.le_of_ble_eq_true rfl, Nat.le_of_ble_eq_true rfl⟩) hK hP hD hS hA 0 7 rfl rfl rfl hl.1 rfl (Nat.le_of_ble_eq_true rfl) dX6_sendField_65 ⟨Nat.zero_le _, Nat.zero_le _⟩ (fun _ H locs hP hD hS => ?_)
            have hP : va_P (dC, dI) vwCl (wM hM hR hT hZ cI m_allRows m_allColumns m_rows m_columns m_cells m_cursor m_locked m_insert m_alarms m_rejects m_latest m_thrown m_streamLong m_at m_place m_orders m_escaped m_broken m_signBefore m_free z_m_waitsLong m_cutOff m_screen m_stream z_m_waits) H := hP
            have hD : va_D A (wM hM hR hT hZ cI m_allRows m_allColumns m_rows m_columns m_cells m_cursor m_locked m_insert m_alarms m_rejects m_latest m_thrown m_streamLong m_at m_place m_orders m_escaped m_broken m_signBefore m_free z_m_waitsLong m_cutOff m_screen m_stream z_m_waits) := hD
            rcases Classical.em (r_8 < 0 ∨ 5676 ≤ r_8.toNatClampNeg) with c_9 | c_9
            · exact nn_abs ((if_pos c_9).symm.trans hf)
            have hf := (if_neg c_9).symm.trans hf
            refine va_iald hx hb hK hP 1 0 rfl rfl c_9 dX6_sendField_68 ?_
            obtain ⟨⟨m_waitsLong_10, m_waits_10⟩, hq_10, hf⟩ := ob_inv hf
            refine my_cVv (As := [.int (m_screen r_8.toNatClampNeg)]) (rest := []) ⟨hx, hb, hml, hown, hts⟩ (c_X6_send l dC dI cI hM hR hT hZ m_allRows m_allColumns m_rows m_columns m_cells m_cursor m_locked m_insert m_alarms m_rejects m_latest m_thrown m_streamLong m_at m_place m_orders m_escaped m_broken m_signBefore m_free z_m_waitsLong m_cutOff m_screen m_stream z_m_waits _ (m_screen r_8.toNatClampNeg) (m_waitsLong_10, m_waits_10) hq_10) (cwV 1 hts gX6_sendField_X6_send rfl rfl rfl (by decide +kernel) ⟨Nat.le_of_ble_eq_true rfl, Nat.le_of_ble_eq_true rfl⟩) hK hP hD hS hA 0 7 rfl rfl rfl hl.1 rfl (Nat.le_of_ble_eq_true rfl) dX6_sendField_69 ⟨Nat.zero_le _, Nat.zero_le _⟩ (fun _ H locs hP hD hS => ?_)
            have hP : va_P (dC, dI) vwCl (wM hM hR hT hZ cI m_allRows m_allColumns m_rows m_columns m_cells m_cursor m_locked m_insert m_alarms m_rejects m_latest m_thrown m_streamLong m_at m_place m_orders m_escaped m_broken m_signBefore m_free m_waitsLong_10 m_cutOff m_screen m_stream m_waits_10) H := hP
            have hD : va_D A (wM hM hR hT hZ cI m_allRows m_allColumns m_rows m_columns m_cells m_cursor m_locked m_insert m_alarms m_rejects m_latest m_thrown m_streamLong m_at m_place m_orders m_escaped m_broken m_signBefore m_free m_waitsLong_10 m_cutOff m_screen m_stream m_waits_10) := hD
            refine lv_iinc (v := v2 + 1) (lv' := [(2, .int (v2 + 1)), (0, .ref hM), (1, .int v1)]) hx hb dX6_sendField_72 hl (k := 2) rfl rfl (by decide) rfl (fun ls hl => ?_)
            refine lv_goto (tgt := 19) hx hb dX6_sendField_75 (by decide) ?_
            exact ih v1 (v2 + 1) m_waitsLong_10 m_waits_10 _ _ hf  hP hD hS ls (lv_sub hl [1, 2, 0] rfl)
  unfold f_X6_sendField at hf
  refine lv_aload_n hx hb dX6_sendField_0 rfl (lv_at hl 0 rfl) ?_
  refine lv_bipush (v := 17) hx hb dX6_sendField_1 (by decide) ?_
  obtain ⟨⟨m_waitsLong_11, m_waits_11⟩, hq_11, hf⟩ := ob_inv hf
  refine my_cVv (As := [.int 17]) (rest := []) ⟨hx, hb, hml, hown, hts⟩ (c_X6_send l dC dI cI hM hR hT hZ m_allRows m_allColumns m_rows m_columns m_cells m_cursor m_locked m_insert m_alarms m_rejects m_latest m_thrown m_streamLong m_at m_place m_orders m_escaped m_broken m_signBefore m_free m_waitsLong m_cutOff m_screen m_stream m_waits _ 17 (m_waitsLong_11, m_waits_11) hq_11) (cwV 1 hts gX6_sendField_X6_send rfl rfl rfl (by decide +kernel) ⟨Nat.le_of_ble_eq_true rfl, Nat.le_of_ble_eq_true rfl⟩) hK hP hD hS hA 0 7 rfl rfl rfl hl.1 rfl (Nat.le_of_ble_eq_true rfl) dX6_sendField_3 ⟨Nat.zero_le _, Nat.zero_le _⟩ (fun _ H locs hP hD hS => ?_)
  have hP : va_P (dC, dI) vwCl (wM hM hR hT hZ cI m_allRows m_allColumns m_rows m_columns m_cells m_cursor m_locked m_insert m_alarms m_rejects m_latest m_thrown m_streamLong m_at m_place m_orders m_escaped m_broken m_signBefore m_free m_waitsLong_11 m_cutOff m_screen m_stream m_waits_11) H := hP
  have hD : va_D A (wM hM hR hT hZ cI m_allRows m_allColumns m_rows m_columns m_cells m_cursor m_locked m_insert m_alarms m_rejects m_latest m_thrown m_streamLong m_at m_place m_orders m_escaped m_broken m_signBefore m_free m_waitsLong_11 m_cutOff m_screen m_stream m_waits_11) := hD
  refine lv_aload_n hx hb dX6_sendField_6 rfl (lv_at hl 0 rfl) ?_
  refine lv_aload_n hx hb dX6_sendField_7 rfl (lv_at hl 0 rfl) ?_
  refine lv_iload_n hx hb dX6_sendField_8 rfl (lv_at hl 1 rfl) ?_
  refine lv_iconst (v := 1) hx hb dX6_sendField_9 (by decide) ?_
  refine lv_iadd hx hb dX6_sendField_10 ?_
  obtain ⟨r_12, hq_12, hf⟩ := ob_inv hf
  refine my_cVi (As := [.int (a1 + 1)]) (rest := [.ref hM]) ⟨hx, hb, hml, hown, hts⟩ (c_X6_round l dC dI cI hM hR hT hZ m_allRows m_allColumns m_rows m_columns m_cells m_cursor m_locked m_insert m_alarms m_rejects m_latest m_thrown m_streamLong m_at m_place m_orders m_escaped m_broken m_signBefore m_free m_waitsLong_11 m_cutOff m_screen m_stream m_waits_11 _ (a1 + 1) r_12 hq_12) (cwV 1 hts gX6_sendField_X6_round rfl rfl rfl (by decide +kernel) ⟨Nat.le_of_ble_eq_true rfl, Nat.le_of_ble_eq_true rfl⟩) hK hP hD hS hA 0 7 rfl rfl rfl hl.1 rfl (Nat.le_of_ble_eq_true rfl) dX6_sendField_11 ⟨Nat.zero_le _, Nat.zero_le _⟩ (fun _ H locs hP hD hS => ?_)
  have hP : va_P (dC, dI) vwCl (wM hM hR hT hZ cI m_allRows m_allColumns m_rows m_columns m_cells m_cursor m_locked m_insert m_alarms m_rejects m_latest m_thrown m_streamLong m_at m_place m_orders m_escaped m_broken m_signBefore m_free m_waitsLong_11 m_cutOff m_screen m_stream m_waits_11) H := hP
  have hD : va_D A (wM hM hR hT hZ cI m_allRows m_allColumns m_rows m_columns m_cells m_cursor m_locked m_insert m_alarms m_rejects m_latest m_thrown m_streamLong m_at m_place m_orders m_escaped m_broken m_signBefore m_free m_waitsLong_11 m_cutOff m_screen m_stream m_waits_11) := hD
  obtain ⟨⟨m_waitsLong_13, m_waits_13⟩, hq_13, hf⟩ := ob_inv hf
  refine my_cVv (As := [.int r_12]) (rest := []) ⟨hx, hb, hml, hown, hts⟩ (c_X6_sendAddress l dC dI cI hM hR hT hZ m_allRows m_allColumns m_rows m_columns m_cells m_cursor m_locked m_insert m_alarms m_rejects m_latest m_thrown m_streamLong m_at m_place m_orders m_escaped m_broken m_signBefore m_free m_waitsLong_11 m_cutOff m_screen m_stream m_waits_11 _ r_12 (m_waitsLong_13, m_waits_13) hq_13) (cwV 1 hts gX6_sendField_X6_sendAddress rfl rfl rfl (by decide +kernel) ⟨Nat.le_of_ble_eq_true rfl, Nat.le_of_ble_eq_true rfl⟩) hK hP hD hS hA 0 7 rfl rfl rfl hl.1 rfl (Nat.le_of_ble_eq_true rfl) dX6_sendField_14 ⟨Nat.zero_le _, Nat.zero_le _⟩ (fun _ H locs hP hD hS => ?_)
  have hP : va_P (dC, dI) vwCl (wM hM hR hT hZ cI m_allRows m_allColumns m_rows m_columns m_cells m_cursor m_locked m_insert m_alarms m_rejects m_latest m_thrown m_streamLong m_at m_place m_orders m_escaped m_broken m_signBefore m_free m_waitsLong_13 m_cutOff m_screen m_stream m_waits_13) H := hP
  have hD : va_D A (wM hM hR hT hZ cI m_allRows m_allColumns m_rows m_columns m_cells m_cursor m_locked m_insert m_alarms m_rejects m_latest m_thrown m_streamLong m_at m_place m_orders m_escaped m_broken m_signBefore m_free m_waitsLong_13 m_cutOff m_screen m_stream m_waits_13) := hD
  refine lv_iconst (v := 1) hx hb dX6_sendField_17 (by decide) ?_
  refine lv_istore_n (lv' := [(2, .int 1), (0, .ref hM), (1, .int a1)]) hx hb dX6_sendField_18 rfl hl (by decide) rfl (fun ls hl => ?_)
  exact L19 FU a1 1 m_waitsLong_13 m_waits_13 _ _ hf  hP hD hS ls (lv_sub hl [1, 2, 0] rfl)

theorem uu_X6_end_X6 : ∀ w ∈ u_ws RX6 TX6 25, w ∈ wsX6_end := fun _ h => List.mem_cons_of_mem _ (List.mem_append_right _ h)
def f_X6_end (m_waitsLong : Int32) (m_waits : Nat → Int32) : Option (Int32 × (Nat → Int32)) :=
    if m_waitsLong < 0 ∨ 23000 ≤ m_waitsLong.toNatClampNeg then none else
    if (m_waitsLong + 1) < 0 ∨ 23000 ≤ (m_waitsLong + 1).toNatClampNeg then none else
    some (m_waitsLong + 2, upd (upd m_waits m_waitsLong.toNatClampNeg 255) (m_waitsLong + 1).toNatClampNeg 239)
set_option maxHeartbeats 400000 in
set_option maxRecDepth 100000 in
theorem c_X6_end (l : Launch) (dC : Nat → ClassId) (dI : Nat → Nat → Nat) (cI : ClassId) (hM hR hT hZ : Nat) (m_allRows : Int32) (m_allColumns : Int32) (m_rows : Int32) (m_columns : Int32) (m_cells : Int32) (m_cursor : Int32) (m_locked : Bool) (m_insert : Bool) (m_alarms : Int32) (m_rejects : Int32) (m_latest : Int32) (m_thrown : Int32) (m_streamLong : Int32) (m_at : Int32) (m_place : Int32) (m_orders : Int32) (m_escaped : Bool) (m_broken : Bool) (m_signBefore : Bool) (m_free : Bool) (m_waitsLong : Int32) (m_cutOff : Bool) (m_screen : Nat → Int32) (m_stream : Nat → Int32) (m_waits : Nat → Int32) (sz : Nat)  (res : Int32 × (Nat → Int32)) (hf : f_X6_end m_waitsLong m_waits = some res) : Met l yX6_end wsX6_end ({ frames := 0, cells := 0, slots := 0, locals := 0 }) (va_Pc [.ref hM] (my_Pre (dC, dI) [(cI, .int)] (wM hM hR hT hZ cI m_allRows m_allColumns m_rows m_columns m_cells m_cursor m_locked m_insert m_alarms m_rejects m_latest m_thrown m_streamLong m_at m_place m_orders m_escaped m_broken m_signBefore m_free m_waitsLong m_cutOff m_screen m_stream m_waits) sz)) (my_Qv (S := Unit) (dC, dI) [(cI, .int)] (fun _ => wM hM hR hT hZ cI m_allRows m_allColumns m_rows m_columns m_cells m_cursor m_locked m_insert m_alarms m_rejects m_latest m_thrown m_streamLong m_at m_place m_orders m_escaped m_broken m_signBefore m_free res.1 m_cutOff m_screen m_stream res.2) (va_A (wM hM hR hT hZ cI m_allRows m_allColumns m_rows m_columns m_cells m_cursor m_locked m_insert m_alarms m_rejects m_latest m_thrown m_streamLong m_at m_place m_orders m_escaped m_broken m_signBefore m_free m_waitsLong m_cutOff m_screen m_stream m_waits) sz)) 0 0 (va_A (wM hM hR hT hZ cI m_allRows m_allColumns m_rows m_columns m_cells m_cursor m_locked m_insert m_alarms m_rejects m_latest m_thrown m_streamLong m_at m_place m_orders m_escaped m_broken m_signBefore m_free m_waitsLong m_cutOff m_screen m_stream m_waits) sz) := by
  refine my_enter (cc := cX6_end) (maxL := 1) (ret := none) (Qc := my_Qv (S := Unit) (dC, dI) [(cI, .int)] (fun _ => wM hM hR hT hZ cI m_allRows m_allColumns m_rows m_columns m_cells m_cursor m_locked m_insert m_alarms m_rejects m_latest m_thrown m_streamLong m_at m_place m_orders m_escaped m_broken m_signBefore m_free res.1 m_cutOff m_screen m_stream res.2)) (by decide) rfl (Nat.le_of_ble_eq_true rfl) ?_
  intro p e s m below meth c A ls hx hb hr hml hts hown hlocks hnm hP hK hD hA hS hl
  have hown : s.vm.findClass RX6 = some m.cls := hown
  have hl : lv_has ls 1 [(0, .ref hM)] := hl
  unfold f_X6_end at hf
  refine lv_aload_n hx hb dX6_end_0 rfl (lv_at hl 0 rfl) ?_
  refine va_get (D := (dC, dI)) (ci := 7) (v := .ref hZ) (C := RX6) (T := TX6) (N := 25) hx hb hts uu_X6_end_X6 hown hK hP 0 rfl rfl 22 (by decide) (hts (.fieldLink RX6 24 "BlockScreenModel" "waits" "[I") (List.mem_of_getElem? (i := 1) rfl)) (fun _ h9 => h9) rfl dX6_end_1 ?_
  refine lv_aload_n hx hb dX6_end_4 rfl (lv_at hl 0 rfl) ?_
  refine va_get (D := (dC, dI)) (ci := 7) (v := .int m_waitsLong) (C := RX6) (T := TX6) (N := 25) hx hb hts uu_X6_end_X6 hown hK hP 0 rfl rfl 23 (by decide) (hts (.fieldLink RX6 137 "BlockScreenModel" "waitsLong" "I") (List.mem_of_getElem? (i := 2) rfl)) (fun _ h9 => h9) rfl dX6_end_5 ?_
  refine lv_sipush (v := 255) hx hb dX6_end_8 (by decide) ?_
  rcases Classical.em (m_waitsLong < 0 ∨ 23000 ≤ m_waitsLong.toNatClampNeg) with c_1 | c_1
  · exact nn_abs ((if_pos c_1).symm.trans hf)
  have hf := (if_neg c_1).symm.trans hf
  refine va_iast hx hb hK hP hD hS 3 0 rfl rfl c_1 dX6_end_11 (fun H locs hP hD hS => ?_)
  have hP : va_P (dC, dI) vwCl (wM hM hR hT hZ cI m_allRows m_allColumns m_rows m_columns m_cells m_cursor m_locked m_insert m_alarms m_rejects m_latest m_thrown m_streamLong m_at m_place m_orders m_escaped m_broken m_signBefore m_free m_waitsLong m_cutOff m_screen m_stream (upd m_waits m_waitsLong.toNatClampNeg 255)) H := hP
  have hD : va_D A (wM hM hR hT hZ cI m_allRows m_allColumns m_rows m_columns m_cells m_cursor m_locked m_insert m_alarms m_rejects m_latest m_thrown m_streamLong m_at m_place m_orders m_escaped m_broken m_signBefore m_free m_waitsLong m_cutOff m_screen m_stream (upd m_waits m_waitsLong.toNatClampNeg 255)) := hD
  refine lv_aload_n hx hb dX6_end_12 rfl (lv_at hl 0 rfl) ?_
  refine va_get (D := (dC, dI)) (ci := 7) (v := .ref hZ) (C := RX6) (T := TX6) (N := 25) hx hb hts uu_X6_end_X6 hown hK hP 0 rfl rfl 22 (by decide) (hts (.fieldLink RX6 24 "BlockScreenModel" "waits" "[I") (List.mem_of_getElem? (i := 1) rfl)) (fun _ h9 => h9) rfl dX6_end_13 ?_
  refine lv_aload_n hx hb dX6_end_16 rfl (lv_at hl 0 rfl) ?_
  refine va_get (D := (dC, dI)) (ci := 7) (v := .int m_waitsLong) (C := RX6) (T := TX6) (N := 25) hx hb hts uu_X6_end_X6 hown hK hP 0 rfl rfl 23 (by decide) (hts (.fieldLink RX6 137 "BlockScreenModel" "waitsLong" "I") (List.mem_of_getElem? (i := 2) rfl)) (fun _ h9 => h9) rfl dX6_end_17 ?_
  refine lv_iconst (v := 1) hx hb dX6_end_20 (by decide) ?_
  refine lv_iadd hx hb dX6_end_21 ?_
  refine lv_sipush (v := 239) hx hb dX6_end_22 (by decide) ?_
  rcases Classical.em ((m_waitsLong + 1) < 0 ∨ 23000 ≤ (m_waitsLong + 1).toNatClampNeg) with c_2 | c_2
  · exact nn_abs ((if_pos c_2).symm.trans hf)
  have hf := (if_neg c_2).symm.trans hf
  refine va_iast hx hb hK hP hD hS 3 0 rfl rfl c_2 dX6_end_25 (fun H locs hP hD hS => ?_)
  have hP : va_P (dC, dI) vwCl (wM hM hR hT hZ cI m_allRows m_allColumns m_rows m_columns m_cells m_cursor m_locked m_insert m_alarms m_rejects m_latest m_thrown m_streamLong m_at m_place m_orders m_escaped m_broken m_signBefore m_free m_waitsLong m_cutOff m_screen m_stream (upd (upd m_waits m_waitsLong.toNatClampNeg 255) (m_waitsLong + 1).toNatClampNeg 239)) H := hP
  have hD : va_D A (wM hM hR hT hZ cI m_allRows m_allColumns m_rows m_columns m_cells m_cursor m_locked m_insert m_alarms m_rejects m_latest m_thrown m_streamLong m_at m_place m_orders m_escaped m_broken m_signBefore m_free m_waitsLong m_cutOff m_screen m_stream (upd (upd m_waits m_waitsLong.toNatClampNeg 255) (m_waitsLong + 1).toNatClampNeg 239)) := hD
  refine lv_aload_n hx hb dX6_end_26 rfl (lv_at hl 0 rfl) ?_
  refine lv_dup hx hb dX6_end_27 rfl ?_
  refine va_get (D := (dC, dI)) (ci := 7) (v := .int m_waitsLong) (C := RX6) (T := TX6) (N := 25) hx hb hts uu_X6_end_X6 hown hK hP 0 rfl rfl 23 (by decide) (hts (.fieldLink RX6 137 "BlockScreenModel" "waitsLong" "I") (List.mem_of_getElem? (i := 2) rfl)) (fun _ h9 => h9) rfl dX6_end_28 ?_
  refine lv_iconst (v := 2) hx hb dX6_end_31 (by decide) ?_
  refine lv_iadd hx hb dX6_end_32 ?_
  refine va_put (D := (dC, dI)) (ci := 7) (v := .int (m_waitsLong + 2)) (C := RX6) (T := TX6) (N := 25) hx hb hts uu_X6_end_X6 tyX6 tyX6_ok nmX6 hown hK hP hD hS 0 rfl rfl 23 (by decide) (hts (.fieldLink RX6 137 "BlockScreenModel" "waitsLong" "I") (List.mem_of_getElem? (i := 2) rfl)) (fun _ h9 => h9) rfl (tyX6_ok 23 (by decide)) rfl rfl (Nat.le_of_ble_eq_true rfl) dX6_end_33 (fun H locs hP hD hS => ?_)
  have hP : va_P (dC, dI) vwCl (wM hM hR hT hZ cI m_allRows m_allColumns m_rows m_columns m_cells m_cursor m_locked m_insert m_alarms m_rejects m_latest m_thrown m_streamLong m_at m_place m_orders m_escaped m_broken m_signBefore m_free (m_waitsLong + 2) m_cutOff m_screen m_stream (upd (upd m_waits m_waitsLong.toNatClampNeg 255) (m_waitsLong + 1).toNatClampNeg 239)) H := hP
  have hD : va_D A (wM hM hR hT hZ cI m_allRows m_allColumns m_rows m_columns m_cells m_cursor m_locked m_insert m_alarms m_rejects m_latest m_thrown m_streamLong m_at m_place m_orders m_escaped m_broken m_signBefore m_free (m_waitsLong + 2) m_cutOff m_screen m_stream (upd (upd m_waits m_waitsLong.toNatClampNeg 255) (m_waitsLong + 1).toNatClampNeg 239)) := hD
  have hf := Option.some.inj hf
  subst hf
  exact my_retv () hx hb hr hlocks hK hP hD hS dX6_end_36

theorem uu_X6_answer_X6 : ∀ w ∈ u_ws RX6 TX6 25, w ∈ wsX6_answer := fun _ h => List.mem_cons_of_mem _ (List.mem_append_right _ h)
def f_X6_answer_L34 (m_cells : Int32) (m_cursor : Int32) (m_screen : Nat → Int32) : Nat → Bool → Int32 → Int32 → Int32 → (Nat → Int32) → Option (Int32 × (Nat → Int32))
  | 0, _, _, _, _, _ => none
  | fu + 1, v2, v3, v4, z_m_waitsLong, z_m_waits =>
    if m_cells ≤ v4 then
    Option.bind (f_X6_end z_m_waitsLong z_m_waits) (fun (m_waitsLong_2, m_waits_2) =>
    some (m_waitsLong_2, m_waits_2))
    else
    if (b2i v2) = 0 then
    if (b2i v2) = 0 then
    if v3 = 0 then
    Option.bind (f_X6_isAttribute m_screen v4) (fun r_6 =>
    if (b2i r_6) = 0 then
    f_X6_answer_L34 m_cells m_cursor m_screen fu v2 v3 (v4 + 1) z_m_waitsLong z_m_waits
    else
    if v4 < 0 ∨ 5676 ≤ v4.toNatClampNeg then none else
    if ((m_screen v4.toNatClampNeg) &&& 1) = 0 then
    f_X6_answer_L34 m_cells m_cursor m_screen fu v2 v3 (v4 + 1) z_m_waitsLong z_m_waits
    else
    Option.bind (f_X6_sendField m_cells z_m_waitsLong m_screen z_m_waits v4) (fun (m_waitsLong_10, m_waits_10) =>
    f_X6_answer_L34 m_cells m_cursor m_screen fu v2 v3 (v4 + 1) m_waitsLong_10 m_waits_10))
    else
    if v4 < 0 ∨ 5676 ≤ v4.toNatClampNeg then none else
    if (m_screen v4.toNatClampNeg) = 0 then
    Option.bind (f_X6_isAttribute m_screen v4) (fun r_13 =>
    if (b2i r_13) = 0 then
    f_X6_answer_L34 m_cells m_cursor m_screen fu v2 v3 (v4 + 1) z_m_waitsLong z_m_waits
    else
    if ((m_screen v4.toNatClampNeg) &&& 1) = 0 then
    f_X6_answer_L34 m_cells m_cursor m_screen fu v2 v3 (v4 + 1) z_m_waitsLong z_m_waits
    else
    Option.bind (f_X6_sendField m_cells z_m_waitsLong m_screen z_m_waits v4) (fun (m_waitsLong_16, m_waits_16) =>
    f_X6_answer_L34 m_cells m_cursor m_screen fu v2 v3 (v4 + 1) m_waitsLong_16 m_waits_16))
    else
    Option.bind (f_X6_send z_m_waitsLong z_m_waits (m_screen v4.toNatClampNeg)) (fun (m_waitsLong_17, m_waits_17) =>
    f_X6_answer_L34 m_cells m_cursor m_screen fu v2 v3 (v4 + 1) m_waitsLong_17 m_waits_17)
    else
    if v4 < 0 ∨ 5676 ≤ v4.toNatClampNeg then none else
    Option.bind (f_X6_send z_m_waitsLong z_m_waits (m_screen v4.toNatClampNeg)) (fun (m_waitsLong_19, m_waits_19) =>
    f_X6_answer_L34 m_cells m_cursor m_screen fu v2 v3 (v4 + 1) m_waitsLong_19 m_waits_19)
    else
    Option.bind (f_X6_isAttribute m_screen v4) (fun r_20 =>
    if (b2i r_20) = 0 then
    if (b2i v2) = 0 then
    if v3 = 0 then
    Option.bind (f_X6_isAttribute m_screen v4) (fun r_24 =>
    if (b2i r_24) = 0 then
    f_X6_answer_L34 m_cells m_cursor m_screen fu v2 v3 (v4 + 1) z_m_waitsLong z_m_waits
    else
    if v4 < 0 ∨ 5676 ≤ v4.toNatClampNeg then none else
    if ((m_screen v4.toNatClampNeg) &&& 1) = 0 then
    f_X6_answer_L34 m_cells m_cursor m_screen fu v2 v3 (v4 + 1) z_m_waitsLong z_m_waits
    else
    Option.bind (f_X6_sendField m_cells z_m_waitsLong m_screen z_m_waits v4) (fun (m_waitsLong_28, m_waits_28) =>
    f_X6_answer_L34 m_cells m_cursor m_screen fu v2 v3 (v4 + 1) m_waitsLong_28 m_waits_28))
    else
    if v4 < 0 ∨ 5676 ≤ v4.toNatClampNeg then none else
    if (m_screen v4.toNatClampNeg) = 0 then
    Option.bind (f_X6_isAttribute m_screen v4) (fun r_31 =>
    if (b2i r_31) = 0 then
    f_X6_answer_L34 m_cells m_cursor m_screen fu v2 v3 (v4 + 1) z_m_waitsLong z_m_waits
    else
    if ((m_screen v4.toNatClampNeg) &&& 1) = 0 then
    f_X6_answer_L34 m_cells m_cursor m_screen fu v2 v3 (v4 + 1) z_m_waitsLong z_m_waits
    else
    Option.bind (f_X6_sendField m_cells z_m_waitsLong m_screen z_m_waits v4) (fun (m_waitsLong_34, m_waits_34) =>
    f_X6_answer_L34 m_cells m_cursor m_screen fu v2 v3 (v4 + 1) m_waitsLong_34 m_waits_34))
    else
    Option.bind (f_X6_send z_m_waitsLong z_m_waits (m_screen v4.toNatClampNeg)) (fun (m_waitsLong_35, m_waits_35) =>
    f_X6_answer_L34 m_cells m_cursor m_screen fu v2 v3 (v4 + 1) m_waitsLong_35 m_waits_35)
    else
    if v4 < 0 ∨ 5676 ≤ v4.toNatClampNeg then none else
    Option.bind (f_X6_send z_m_waitsLong z_m_waits (m_screen v4.toNatClampNeg)) (fun (m_waitsLong_37, m_waits_37) =>
    f_X6_answer_L34 m_cells m_cursor m_screen fu v2 v3 (v4 + 1) m_waitsLong_37 m_waits_37)
    else
    Option.bind (f_X6_send z_m_waitsLong z_m_waits 29) (fun (m_waitsLong_38, m_waits_38) =>
    if v4 < 0 ∨ 5676 ≤ v4.toNatClampNeg then none else
    Option.bind (f_X6_send m_waitsLong_38 m_waits_38 ((m_screen v4.toNatClampNeg) - 256)) (fun (m_waitsLong_40, m_waits_40) =>
    f_X6_answer_L34 m_cells m_cursor m_screen fu v2 v3 (v4 + 1) m_waitsLong_40 m_waits_40)))
def f_X6_answer (m_cells : Int32) (m_cursor : Int32) (m_waitsLong : Int32) (m_screen : Nat → Int32) (m_waits : Nat → Int32) (a1 : Int32) (a2 : Bool) : Option (Int32 × (Nat → Int32)) :=
    Option.bind (f_X6_send 0 m_waits a1) (fun (m_waitsLong_41, m_waits_41) =>
    Option.bind (f_X6_sendAddress m_cells m_waitsLong_41 m_waits_41 m_cursor) (fun (m_waitsLong_42, m_waits_42) =>
    Option.bind (f_X6_fields m_cells m_screen) (fun r_43 =>
    if r_43 = 0 then
    f_X6_answer_L34 m_cells m_cursor m_screen FU a2 1 0 m_waitsLong_42 m_waits_42
    else
    f_X6_answer_L34 m_cells m_cursor m_screen FU a2 0 0 m_waitsLong_42 m_waits_42)))
set_option maxHeartbeats 400000 in
set_option maxRecDepth 100000 in
theorem c_X6_answer (l : Launch) (dC : Nat → ClassId) (dI : Nat → Nat → Nat) (cI : ClassId) (hM hR hT hZ : Nat) (m_allRows : Int32) (m_allColumns : Int32) (m_rows : Int32) (m_columns : Int32) (m_cells : Int32) (m_cursor : Int32) (m_locked : Bool) (m_insert : Bool) (m_alarms : Int32) (m_rejects : Int32) (m_latest : Int32) (m_thrown : Int32) (m_streamLong : Int32) (m_at : Int32) (m_place : Int32) (m_orders : Int32) (m_escaped : Bool) (m_broken : Bool) (m_signBefore : Bool) (m_free : Bool) (m_waitsLong : Int32) (m_cutOff : Bool) (m_screen : Nat → Int32) (m_stream : Nat → Int32) (m_waits : Nat → Int32) (sz : Nat) (a1 : Int32) (a2 : Bool) (res : Int32 × (Nat → Int32)) (hf : f_X6_answer m_cells m_cursor m_waitsLong m_screen m_waits a1 a2 = some res) : Met l yX6_answer wsX6_answer ({ frames := 3, cells := 0, slots := 0, locals := 64 }) (va_Pc [.ref hM, .int a1, .int (b2i a2)] (my_Pre (dC, dI) [(cI, .int)] (wM hM hR hT hZ cI m_allRows m_allColumns m_rows m_columns m_cells m_cursor m_locked m_insert m_alarms m_rejects m_latest m_thrown m_streamLong m_at m_place m_orders m_escaped m_broken m_signBefore m_free m_waitsLong m_cutOff m_screen m_stream m_waits) sz)) (my_Qv (S := Unit) (dC, dI) [(cI, .int)] (fun _ => wM hM hR hT hZ cI m_allRows m_allColumns m_rows m_columns m_cells m_cursor m_locked m_insert m_alarms m_rejects m_latest m_thrown m_streamLong m_at m_place m_orders m_escaped m_broken m_signBefore m_free res.1 m_cutOff m_screen m_stream res.2) (va_A (wM hM hR hT hZ cI m_allRows m_allColumns m_rows m_columns m_cells m_cursor m_locked m_insert m_alarms m_rejects m_latest m_thrown m_streamLong m_at m_place m_orders m_escaped m_broken m_signBefore m_free m_waitsLong m_cutOff m_screen m_stream m_waits) sz)) 0 0 (va_A (wM hM hR hT hZ cI m_allRows m_allColumns m_rows m_columns m_cells m_cursor m_locked m_insert m_alarms m_rejects m_latest m_thrown m_streamLong m_at m_place m_orders m_escaped m_broken m_signBefore m_free m_waitsLong m_cutOff m_screen m_stream m_waits) sz) := by
  refine my_enter (cc := cX6_answer) (maxL := 5) (ret := none) (Qc := my_Qv (S := Unit) (dC, dI) [(cI, .int)] (fun _ => wM hM hR hT hZ cI m_allRows m_allColumns m_rows m_columns m_cells m_cursor m_locked m_insert m_alarms m_rejects m_latest m_thrown m_streamLong m_at m_place m_orders m_escaped m_broken m_signBefore m_free res.1 m_cutOff m_screen m_stream res.2)) (by decide) rfl (Nat.le_of_ble_eq_true rfl) ?_
  intro p e s m below meth c A ls hx hb hr hml hts hown hlocks hnm hP hK hD hA hS hl
  have hown : s.vm.findClass RX6 = some m.cls := hown
  have hl : lv_has ls 5 [(0, .ref hM), (1, .int a1), (2, .int (b2i a2))] := hl
  have L34 : ∀ (fu : Nat) (v2 : Bool) (v3 : Int32) (v4 : Int32) (z_m_waitsLong : Int32) (z_m_waits : Nat → Int32)  (H : Heap) (locs : List Loc), f_X6_answer_L34 m_cells m_cursor m_screen fu v2 v3 v4 z_m_waitsLong z_m_waits = some res → va_P (dC, dI) vwCl (wM hM hR hT hZ cI m_allRows m_allColumns m_rows m_columns m_cells m_cursor m_locked m_insert m_alarms m_rejects m_latest m_thrown m_streamLong m_at m_place m_orders m_escaped m_broken m_signBefore m_free z_m_waitsLong m_cutOff m_screen m_stream z_m_waits) H → va_D A (wM hM hR hT hZ cI m_allRows m_allColumns m_rows m_columns m_cells m_cursor m_locked m_insert m_alarms m_rejects m_latest m_thrown m_streamLong m_at m_place m_orders m_escaped m_broken m_signBefore m_free z_m_waitsLong m_cutOff m_screen m_stream z_m_waits) → va_S A s.heap H locs → ∀ (ls : Array Slot), lv_has ls 5 [(0, .ref hM), (2, .int (b2i v2)), (3, .int v3), (4, .int v4)] → W p l e (headSpec wsX6_answer ({ frames := 3, cells := 0, slots := 0, locals := 64 })).room s m ([.ref hM, .int a1, .int (b2i a2)] : List Value).toArray below meth c H locs 0 0 (MQ below (my_Qv (S := Unit) (dC, dI) [(cI, .int)] (fun _ => wM hM hR hT hZ cI m_allRows m_allColumns m_rows m_columns m_cells m_cursor m_locked m_insert m_alarms m_rejects m_latest m_thrown m_streamLong m_at m_place m_orders m_escaped m_broken m_signBefore m_free res.1 m_cutOff m_screen m_stream res.2) A) ([.ref hM, .int a1, .int (b2i a2)] : List Value).toArray s 0 0 A) (F0 m 34 ls []) := by
    intro fu
    induction fu with
    | zero =>
      intro v2 v3 v4 z_m_waitsLong z_m_waits H locs hf
      rw [f_X6_answer_L34.eq_1] at hf
      cases hf
    | succ fu ih =>
      intro v2 v3 v4 z_m_waitsLong z_m_waits H locs hf  hP hD hS ls hl
      rw [f_X6_answer_L34.eq_2] at hf
      refine lv_iload hx hb dX6_answer_34 (lv_at hl 3 rfl) ?_
      refine lv_aload_n hx hb dX6_answer_36 rfl (lv_at hl 0 rfl) ?_
      refine va_get (D := (dC, dI)) (ci := 7) (v := .int m_cells) (C := RX6) (T := TX6) (N := 25) hx hb hts uu_X6_answer_X6 hown hK hP 0 rfl rfl 4 (by decide) (hts (.fieldLink RX6 46 "BlockScreenModel" "cells" "I") (List.mem_of_getElem? (i := 3) rfl)) (fun _ h9 => h9) rfl dX6_answer_37 ?_
      refine lv_icmp_ge (tgt := 159) hx hb dX6_answer_40 (by decide) (fun c_1 => ?_) (fun c_1 => ?_)
      · have hf := (if_pos c_1).symm.trans hf
        refine lv_aload_n hx hb dX6_answer_159 rfl (lv_at hl 0 rfl) ?_
        obtain ⟨⟨m_waitsLong_2, m_waits_2⟩, hq_2, hf⟩ := ob_inv hf
        refine my_cVv (As := []) (rest := []) ⟨hx, hb, hml, hown, hts⟩ (c_X6_end l dC dI cI hM hR hT hZ m_allRows m_allColumns m_rows m_columns m_cells m_cursor m_locked m_insert m_alarms m_rejects m_latest m_thrown m_streamLong m_at m_place m_orders m_escaped m_broken m_signBefore m_free z_m_waitsLong m_cutOff m_screen m_stream z_m_waits _  (m_waitsLong_2, m_waits_2) hq_2) (cwV 0 hts gX6_answer_X6_end rfl rfl rfl (by decide +kernel) ⟨Nat.le_of_ble_eq_true rfl, Nat.le_of_ble_eq_true rfl⟩) hK hP hD hS hA 0 7 rfl rfl rfl hl.1 rfl (Nat.le_of_ble_eq_true rfl) dX6_answer_160 ⟨Nat.zero_le _, Nat.zero_le _⟩ (fun _ H locs hP hD hS => ?_)
        have hP : va_P (dC, dI) vwCl (wM hM hR hT hZ cI m_allRows m_allColumns m_rows m_columns m_cells m_cursor m_locked m_insert m_alarms m_rejects m_latest m_thrown m_streamLong m_at m_place m_orders m_escaped m_broken m_signBefore m_free m_waitsLong_2 m_cutOff m_screen m_stream m_waits_2) H := hP
        have hD : va_D A (wM hM hR hT hZ cI m_allRows m_allColumns m_rows m_columns m_cells m_cursor m_locked m_insert m_alarms m_rejects m_latest m_thrown m_streamLong m_at m_place m_orders m_escaped m_broken m_signBefore m_free m_waitsLong_2 m_cutOff m_screen m_stream m_waits_2) := hD
        have hf := Option.some.inj hf
        subst hf
        exact my_retv () hx hb hr hlocks hK hP hD hS dX6_answer_163
      · have hf := (if_neg c_1).symm.trans hf
        refine lv_iload_n hx hb dX6_answer_43 rfl (lv_at hl 1 rfl) ?_
        refine lv_if_eq (tgt := 80) hx hb dX6_answer_44 (by decide) (fun c_3 => ?_) (fun c_3 => ?_)
        · have hf := (if_pos c_3).symm.trans hf
          refine lv_iload_n hx hb dX6_answer_80 rfl (lv_at hl 1 rfl) ?_
          refine lv_if_eq (tgt := 98) hx hb dX6_answer_81 (by decide) (fun c_4 => ?_) (fun c_4 => ?_)
          · have hf := (if_pos c_4).symm.trans hf
            refine lv_iload_n hx hb dX6_answer_98 rfl (lv_at hl 2 rfl) ?_
            refine lv_if_eq (tgt := 126) hx hb dX6_answer_99 (by decide) (fun c_5 => ?_) (fun c_5 => ?_)
            · have hf := (if_pos c_5).symm.trans hf
              refine lv_aload_n hx hb dX6_answer_126 rfl (lv_at hl 0 rfl) ?_
              refine lv_iload hx hb dX6_answer_127 (lv_at hl 3 rfl) ?_
              obtain ⟨r_6, hq_6, hf⟩ := ob_inv hf
              refine my_cVi (As := [.int v4]) (rest := []) ⟨hx, hb, hml, hown, hts⟩ (c_X6_isAttribute l dC dI cI hM hR hT hZ m_allRows m_allColumns m_rows m_columns m_cells m_cursor m_locked m_insert m_alarms m_rejects m_latest m_thrown m_streamLong m_at m_place m_orders m_escaped m_broken m_signBefore m_free z_m_waitsLong m_cutOff m_screen m_stream z_m_waits _ v4 r_6 hq_6) (cwV 1 hts gX6_answer_X6_isAttribute rfl rfl rfl (by decide +kernel) ⟨Nat.le_of_ble_eq_true rfl, Nat.le_of_ble_eq_true rfl⟩) hK hP hD hS hA 0 7 rfl rfl rfl hl.1 rfl (Nat.le_of_ble_eq_true rfl) dX6_answer_129 ⟨Nat.zero_le _, Nat.zero_le _⟩ (fun _ H locs hP hD hS => ?_)
              have hP : va_P (dC, dI) vwCl (wM hM hR hT hZ cI m_allRows m_allColumns m_rows m_columns m_cells m_cursor m_locked m_insert m_alarms m_rejects m_latest m_thrown m_streamLong m_at m_place m_orders m_escaped m_broken m_signBefore m_free z_m_waitsLong m_cutOff m_screen m_stream z_m_waits) H := hP
              have hD : va_D A (wM hM hR hT hZ cI m_allRows m_allColumns m_rows m_columns m_cells m_cursor m_locked m_insert m_alarms m_rejects m_latest m_thrown m_streamLong m_at m_place m_orders m_escaped m_broken m_signBefore m_free z_m_waitsLong m_cutOff m_screen m_stream z_m_waits) := hD
              refine lv_if_eq (tgt := 153) hx hb dX6_answer_132 (by decide) (fun c_7 => ?_) (fun c_7 => ?_)
              · have hf := (if_pos c_7).symm.trans hf
                refine lv_iinc (v := v4 + 1) (lv' := [(4, .int (v4 + 1)), (0, .ref hM), (2, .int (b2i v2)), (3, .int v3)]) hx hb dX6_answer_153 hl (k := 3) rfl rfl (by decide) rfl (fun ls hl => ?_)
                refine lv_goto (tgt := 34) hx hb dX6_answer_156 (by decide) ?_
                exact ih v2 v3 (v4 + 1) z_m_waitsLong z_m_waits _ _ hf  hP hD hS ls (lv_sub hl [1, 2, 3, 0] rfl)
              · have hf := (if_neg c_7).symm.trans hf
                refine lv_aload_n hx hb dX6_answer_135 rfl (lv_at hl 0 rfl) ?_
                refine va_get (D := (dC, dI)) (ci := 7) (v := .ref hR) (C := RX6) (T := TX6) (N := 25) hx hb hts uu_X6_answer_X6 hown hK hP 0 rfl rfl 6 (by decide) (hts (.fieldLink RX6 7 "BlockScreenModel" "screen" "[I") (List.mem_of_getElem? (i := 4) rfl)) (fun _ h9 => h9) rfl dX6_answer_136 ?_
                refine lv_iload hx hb dX6_answer_139 (lv_at hl 3 rfl) ?_
                rcases Classical.em (v4 < 0 ∨ 5676 ≤ v4.toNatClampNeg) with c_8 | c_8
                · exact nn_abs ((if_pos c_8).symm.trans hf)
                have hf := (if_neg c_8).symm.trans hf
                refine va_iald hx hb hK hP 1 0 rfl rfl c_8 dX6_answer_141 ?_
                refine lv_iconst (v := 1) hx hb dX6_answer_142 (by decide) ?_
                refine lv_iand hx hb dX6_answer_143 ?_
                refine lv_if_eq (tgt := 153) hx hb dX6_answer_144 (by decide) (fun c_9 => ?_) (fun c_9 => ?_)
                · have hf := (if_pos c_9).symm.trans hf
                  refine lv_iinc (v := v4 + 1) (lv' := [(4, .int (v4 + 1)), (0, .ref hM), (2, .int (b2i v2)), (3, .int v3)]) hx hb dX6_answer_153 hl (k := 3) rfl rfl (by decide) rfl (fun ls hl => ?_)
                  refine lv_goto (tgt := 34) hx hb dX6_answer_156 (by decide) ?_
                  exact ih v2 v3 (v4 + 1) z_m_waitsLong z_m_waits _ _ hf  hP hD hS ls (lv_sub hl [1, 2, 3, 0] rfl)
                · have hf := (if_neg c_9).symm.trans hf
                  refine lv_aload_n hx hb dX6_answer_147 rfl (lv_at hl 0 rfl) ?_
                  refine lv_iload hx hb dX6_answer_148 (lv_at hl 3 rfl) ?_
                  obtain ⟨⟨m_waitsLong_10, m_waits_10⟩, hq_10, hf⟩ := ob_inv hf
                  refine my_cVv (As := [.int v4]) (rest := []) ⟨hx, hb, hml, hown, hts⟩ (c_X6_sendField l dC dI cI hM hR hT hZ m_allRows m_allColumns m_rows m_columns m_cells m_cursor m_locked m_insert m_alarms m_rejects m_latest m_thrown m_streamLong m_at m_place m_orders m_escaped m_broken m_signBefore m_free z_m_waitsLong m_cutOff m_screen m_stream z_m_waits _ v4 (m_waitsLong_10, m_waits_10) hq_10) (cwV 1 hts gX6_answer_X6_sendField rfl rfl rfl (by decide +kernel) ⟨Nat.le_of_ble_eq_true rfl, Nat.le_of_ble_eq_true rfl⟩) hK hP hD hS hA 0 7 rfl rfl rfl hl.1 rfl (Nat.le_of_ble_eq_true rfl) dX6_answer_150 ⟨Nat.zero_le _, Nat.zero_le _⟩ (fun _ H locs hP hD hS => ?_)
                  have hP : va_P (dC, dI) vwCl (wM hM hR hT hZ cI m_allRows m_allColumns m_rows m_columns m_cells m_cursor m_locked m_insert m_alarms m_rejects m_latest m_thrown m_streamLong m_at m_place m_orders m_escaped m_broken m_signBefore m_free m_waitsLong_10 m_cutOff m_screen m_stream m_waits_10) H := hP
                  have hD : va_D A (wM hM hR hT hZ cI m_allRows m_allColumns m_rows m_columns m_cells m_cursor m_locked m_insert m_alarms m_rejects m_latest m_thrown m_streamLong m_at m_place m_orders m_escaped m_broken m_signBefore m_free m_waitsLong_10 m_cutOff m_screen m_stream m_waits_10) := hD
                  refine lv_iinc (v := v4 + 1) (lv' := [(4, .int (v4 + 1)), (0, .ref hM), (2, .int (b2i v2)), (3, .int v3)]) hx hb dX6_answer_153 hl (k := 3) rfl rfl (by decide) rfl (fun ls hl => ?_)
                  refine lv_goto (tgt := 34) hx hb dX6_answer_156 (by decide) ?_
                  exact ih v2 v3 (v4 + 1) m_waitsLong_10 m_waits_10 _ _ hf  hP hD hS ls (lv_sub hl [1, 2, 3, 0] rfl)
            · have hf := (if_neg c_5).symm.trans hf
              refine lv_aload_n hx hb dX6_answer_102 rfl (lv_at hl 0 rfl) ?_
              refine va_get (D := (dC, dI)) (ci := 7) (v := .ref hR) (C := RX6) (T := TX6) (N := 25) hx hb hts uu_X6_answer_X6 hown hK hP 0 rfl rfl 6 (by decide) (hts (.fieldLink RX6 7 "BlockScreenModel" "screen" "[I") (List.mem_of_getElem? (i := 4) rfl)) (fun _ h9 => h9) rfl dX6_answer_103 ?_
              refine lv_iload hx hb dX6_answer_106 (lv_at hl 3 rfl) ?_
              rcases Classical.em (v4 < 0 ∨ 5676 ≤ v4.toNatClampNeg) with c_11 | c_11
              · exact nn_abs ((if_pos c_11).symm.trans hf)
              have hf := (if_neg c_11).symm.trans hf
              refine va_iald hx hb hK hP 1 0 rfl rfl c_11 dX6_answer_108 ?_
              refine lv_if_eq (tgt := 126) hx hb dX6_answer_109 (by decide) (fun c_12 => ?_) (fun c_12 => ?_)
              · have hf := (if_pos c_12).symm.trans hf
                refine lv_aload_n hx hb dX6_answer_126 rfl (lv_at hl 0 rfl) ?_
                refine lv_iload hx hb dX6_answer_127 (lv_at hl 3 rfl) ?_
                obtain ⟨r_13, hq_13, hf⟩ := ob_inv hf
                refine my_cVi (As := [.int v4]) (rest := []) ⟨hx, hb, hml, hown, hts⟩ (c_X6_isAttribute l dC dI cI hM hR hT hZ m_allRows m_allColumns m_rows m_columns m_cells m_cursor m_locked m_insert m_alarms m_rejects m_latest m_thrown m_streamLong m_at m_place m_orders m_escaped m_broken m_signBefore m_free z_m_waitsLong m_cutOff m_screen m_stream z_m_waits _ v4 r_13 hq_13) (cwV 1 hts gX6_answer_X6_isAttribute rfl rfl rfl (by decide +kernel) ⟨Nat.le_of_ble_eq_true rfl, Nat.le_of_ble_eq_true rfl⟩) hK hP hD hS hA 0 7 rfl rfl rfl hl.1 rfl (Nat.le_of_ble_eq_true rfl) dX6_answer_129 ⟨Nat.zero_le _, Nat.zero_le _⟩ (fun _ H locs hP hD hS => ?_)
                have hP : va_P (dC, dI) vwCl (wM hM hR hT hZ cI m_allRows m_allColumns m_rows m_columns m_cells m_cursor m_locked m_insert m_alarms m_rejects m_latest m_thrown m_streamLong m_at m_place m_orders m_escaped m_broken m_signBefore m_free z_m_waitsLong m_cutOff m_screen m_stream z_m_waits) H := hP
                have hD : va_D A (wM hM hR hT hZ cI m_allRows m_allColumns m_rows m_columns m_cells m_cursor m_locked m_insert m_alarms m_rejects m_latest m_thrown m_streamLong m_at m_place m_orders m_escaped m_broken m_signBefore m_free z_m_waitsLong m_cutOff m_screen m_stream z_m_waits) := hD
                refine lv_if_eq (tgt := 153) hx hb dX6_answer_132 (by decide) (fun c_14 => ?_) (fun c_14 => ?_)
                · have hf := (if_pos c_14).symm.trans hf
                  refine lv_iinc (v := v4 + 1) (lv' := [(4, .int (v4 + 1)), (0, .ref hM), (2, .int (b2i v2)), (3, .int v3)]) hx hb dX6_answer_153 hl (k := 3) rfl rfl (by decide) rfl (fun ls hl => ?_)
                  refine lv_goto (tgt := 34) hx hb dX6_answer_156 (by decide) ?_
                  exact ih v2 v3 (v4 + 1) z_m_waitsLong z_m_waits _ _ hf  hP hD hS ls (lv_sub hl [1, 2, 3, 0] rfl)
                · have hf := (if_neg c_14).symm.trans hf
                  refine lv_aload_n hx hb dX6_answer_135 rfl (lv_at hl 0 rfl) ?_
                  refine va_get (D := (dC, dI)) (ci := 7) (v := .ref hR) (C := RX6) (T := TX6) (N := 25) hx hb hts uu_X6_answer_X6 hown hK hP 0 rfl rfl 6 (by decide) (hts (.fieldLink RX6 7 "BlockScreenModel" "screen" "[I") (List.mem_of_getElem? (i := 4) rfl)) (fun _ h9 => h9) rfl dX6_answer_136 ?_
                  refine lv_iload hx hb dX6_answer_139 (lv_at hl 3 rfl) ?_
                  refine va_iald hx hb hK hP 1 0 rfl rfl c_11 dX6_answer_141 ?_
                  refine lv_iconst (v := 1) hx hb dX6_answer_142 (by decide) ?_
                  refine lv_iand hx hb dX6_answer_143 ?_
                  refine lv_if_eq (tgt := 153) hx hb dX6_answer_144 (by decide) (fun c_15 => ?_) (fun c_15 => ?_)
                  · have hf := (if_pos c_15).symm.trans hf
                    refine lv_iinc (v := v4 + 1) (lv' := [(4, .int (v4 + 1)), (0, .ref hM), (2, .int (b2i v2)), (3, .int v3)]) hx hb dX6_answer_153 hl (k := 3) rfl rfl (by decide) rfl (fun ls hl => ?_)
                    refine lv_goto (tgt := 34) hx hb dX6_answer_156 (by decide) ?_
                    exact ih v2 v3 (v4 + 1) z_m_waitsLong z_m_waits _ _ hf  hP hD hS ls (lv_sub hl [1, 2, 3, 0] rfl)
                  · have hf := (if_neg c_15).symm.trans hf
                    refine lv_aload_n hx hb dX6_answer_147 rfl (lv_at hl 0 rfl) ?_
                    refine lv_iload hx hb dX6_answer_148 (lv_at hl 3 rfl) ?_
                    obtain ⟨⟨m_waitsLong_16, m_waits_16⟩, hq_16, hf⟩ := ob_inv hf
                    refine my_cVv (As := [.int v4]) (rest := []) ⟨hx, hb, hml, hown, hts⟩ (c_X6_sendField l dC dI cI hM hR hT hZ m_allRows m_allColumns m_rows m_columns m_cells m_cursor m_locked m_insert m_alarms m_rejects m_latest m_thrown m_streamLong m_at m_place m_orders m_escaped m_broken m_signBefore m_free z_m_waitsLong m_cutOff m_screen m_stream z_m_waits _ v4 (m_waitsLong_16, m_waits_16) hq_16) (cwV 1 hts gX6_answer_X6_sendField rfl rfl rfl (by decide +kernel) ⟨Nat.le_of_ble_eq_true rfl, Nat.le_of_ble_eq_true rfl⟩) hK hP hD hS hA 0 7 rfl rfl rfl hl.1 rfl (Nat.le_of_ble_eq_true rfl) dX6_answer_150 ⟨Nat.zero_le _, Nat.zero_le _⟩ (fun _ H locs hP hD hS => ?_)
                    have hP : va_P (dC, dI) vwCl (wM hM hR hT hZ cI m_allRows m_allColumns m_rows m_columns m_cells m_cursor m_locked m_insert m_alarms m_rejects m_latest m_thrown m_streamLong m_at m_place m_orders m_escaped m_broken m_signBefore m_free m_waitsLong_16 m_cutOff m_screen m_stream m_waits_16) H := hP
                    have hD : va_D A (wM hM hR hT hZ cI m_allRows m_allColumns m_rows m_columns m_cells m_cursor m_locked m_insert m_alarms m_rejects m_latest m_thrown m_streamLong m_at m_place m_orders m_escaped m_broken m_signBefore m_free m_waitsLong_16 m_cutOff m_screen m_stream m_waits_16) := hD
                    refine lv_iinc (v := v4 + 1) (lv' := [(4, .int (v4 + 1)), (0, .ref hM), (2, .int (b2i v2)), (3, .int v3)]) hx hb dX6_answer_153 hl (k := 3) rfl rfl (by decide) rfl (fun ls hl => ?_)
                    refine lv_goto (tgt := 34) hx hb dX6_answer_156 (by decide) ?_
                    exact ih v2 v3 (v4 + 1) m_waitsLong_16 m_waits_16 _ _ hf  hP hD hS ls (lv_sub hl [1, 2, 3, 0] rfl)
              · have hf := (if_neg c_12).symm.trans hf
                refine lv_aload_n hx hb dX6_answer_112 rfl (lv_at hl 0 rfl) ?_
                refine lv_aload_n hx hb dX6_answer_113 rfl (lv_at hl 0 rfl) ?_
                refine va_get (D := (dC, dI)) (ci := 7) (v := .ref hR) (C := RX6) (T := TX6) (N := 25) hx hb hts uu_X6_answer_X6 hown hK hP 0 rfl rfl 6 (by decide) (hts (.fieldLink RX6 7 "BlockScreenModel" "screen" "[I") (List.mem_of_getElem? (i := 4) rfl)) (fun _ h9 => h9) rfl dX6_answer_114 ?_
                refine lv_iload hx hb dX6_answer_117 (lv_at hl 3 rfl) ?_
                refine va_iald hx hb hK hP 1 0 rfl rfl c_11 dX6_answer_119 ?_
                obtain ⟨⟨m_waitsLong_17, m_waits_17⟩, hq_17, hf⟩ := ob_inv hf
                refine my_cVv (As := [.int (m_screen v4.toNatClampNeg)]) (rest := []) ⟨hx, hb, hml, hown, hts⟩ (c_X6_send l dC dI cI hM hR hT hZ m_allRows m_allColumns m_rows m_columns m_cells m_cursor m_locked m_insert m_alarms m_rejects m_latest m_thrown m_streamLong m_at m_place m_orders m_escaped m_broken m_signBefore m_free z_m_waitsLong m_cutOff m_screen m_stream z_m_waits _ (m_screen v4.toNatClampNeg) (m_waitsLong_17, m_waits_17) hq_17) (cwV 1 hts gX6_answer_X6_send rfl rfl rfl (by decide +kernel) ⟨Nat.le_of_ble_eq_true rfl, Nat.le_of_ble_eq_true rfl⟩) hK hP hD hS hA 0 7 rfl rfl rfl hl.1 rfl (Nat.le_of_ble_eq_true rfl) dX6_answer_120 ⟨Nat.zero_le _, Nat.zero_le _⟩ (fun _ H locs hP hD hS => ?_)
                have hP : va_P (dC, dI) vwCl (wM hM hR hT hZ cI m_allRows m_allColumns m_rows m_columns m_cells m_cursor m_locked m_insert m_alarms m_rejects m_latest m_thrown m_streamLong m_at m_place m_orders m_escaped m_broken m_signBefore m_free m_waitsLong_17 m_cutOff m_screen m_stream m_waits_17) H := hP
                have hD : va_D A (wM hM hR hT hZ cI m_allRows m_allColumns m_rows m_columns m_cells m_cursor m_locked m_insert m_alarms m_rejects m_latest m_thrown m_streamLong m_at m_place m_orders m_escaped m_broken m_signBefore m_free m_waitsLong_17 m_cutOff m_screen m_stream m_waits_17) := hD
                refine lv_goto (tgt := 153) hx hb dX6_answer_123 (by decide) ?_
                refine lv_iinc (v := v4 + 1) (lv' := [(4, .int (v4 + 1)), (0, .ref hM), (2, .int (b2i v2)), (3, .int v3)]) hx hb dX6_answer_153 hl (k := 3) rfl rfl (by decide) rfl (fun ls hl => ?_)
                refine lv_goto (tgt := 34) hx hb dX6_answer_156 (by decide) ?_
                exact ih v2 v3 (v4 + 1) m_waitsLong_17 m_waits_17 _ _ hf  hP hD hS ls (lv_sub hl [1, 2, 3, 0] rfl)
          · have hf := (if_neg c_4).symm.trans hf
            refine lv_aload_n hx hb dX6_answer_84 rfl (lv_at hl 0 rfl) ?_
            refine lv_aload_n hx hb dX6_answer_85 rfl (lv_at hl 0 rfl) ?_
            refine va_get (D := (dC, dI)) (ci := 7) (v := .ref hR) (C := RX6) (T := TX6) (N := 25) hx hb hts uu_X6_answer_X6 hown hK hP 0 rfl rfl 6 (by decide) (hts (.fieldLink RX6 7 "BlockScreenModel" "screen" "[I") (List.mem_of_getElem? (i := 4) rfl)) (fun _ h9 => h9) rfl dX6_answer_86 ?_
            refine lv_iload hx hb dX6_answer_89 (lv_at hl 3 rfl) ?_
            rcases Classical.em (v4 < 0 ∨ 5676 ≤ v4.toNatClampNeg) with c_18 | c_18
            · exact nn_abs ((if_pos c_18).symm.trans hf)
            have hf := (if_neg c_18).symm.trans hf
            refine va_iald hx hb hK hP 1 0 rfl rfl c_18 dX6_answer_91 ?_
            obtain ⟨⟨m_waitsLong_19, m_waits_19⟩, hq_19, hf⟩ := ob_inv hf
            refine my_cVv (As := [.int (m_screen v4.toNatClampNeg)]) (rest := []) ⟨hx, hb, hml, hown, hts⟩ (c_X6_send l dC dI cI hM hR hT hZ m_allRows m_allColumns m_rows m_columns m_cells m_cursor m_locked m_insert m_alarms m_rejects m_latest m_thrown m_streamLong m_at m_place m_orders m_escaped m_broken m_signBefore m_free z_m_waitsLong m_cutOff m_screen m_stream z_m_waits _ (m_screen v4.toNatClampNeg) (m_waitsLong_19, m_waits_19) hq_19) (cwV 1 hts gX6_answer_X6_send rfl rfl rfl (by decide +kernel) ⟨Nat.le_of_ble_eq_true rfl, Nat.le_of_ble_eq_true rfl⟩) hK hP hD hS hA 0 7 rfl rfl rfl hl.1 rfl (Nat.le_of_ble_eq_true rfl) dX6_answer_92 ⟨Nat.zero_le _, Nat.zero_le _⟩ (fun _ H locs hP hD hS => ?_)
            have hP : va_P (dC, dI) vwCl (wM hM hR hT hZ cI m_allRows m_allColumns m_rows m_columns m_cells m_cursor m_locked m_insert m_alarms m_rejects m_latest m_thrown m_streamLong m_at m_place m_orders m_escaped m_broken m_signBefore m_free m_waitsLong_19 m_cutOff m_screen m_stream m_waits_19) H := hP
            have hD : va_D A (wM hM hR hT hZ cI m_allRows m_allColumns m_rows m_columns m_cells m_cursor m_locked m_insert m_alarms m_rejects m_latest m_thrown m_streamLong m_at m_place m_orders m_escaped m_broken m_signBefore m_free m_waitsLong_19 m_cutOff m_screen m_stream m_waits_19) := hD
            refine lv_goto (tgt := 153) hx hb dX6_answer_95 (by decide) ?_
            refine lv_iinc (v := v4 + 1) (lv' := [(4, .int (v4 + 1)), (0, .ref hM), (2, .int (b2i v2)), (3, .int v3)]) hx hb dX6_answer_153 hl (k := 3) rfl rfl (by decide) rfl (fun ls hl => ?_)
            refine lv_goto (tgt := 34) hx hb dX6_answer_156 (by decide) ?_
            exact ih v2 v3 (v4 + 1) m_waitsLong_19 m_waits_19 _ _ hf  hP hD hS ls (lv_sub hl [1, 2, 3, 0] rfl)
        · have hf := (if_neg c_3).symm.trans hf
          refine lv_aload_n hx hb dX6_answer_47 rfl (lv_at hl 0 rfl) ?_
          refine lv_iload hx hb dX6_answer_48 (lv_at hl 3 rfl) ?_
          obtain ⟨r_20, hq_20, hf⟩ := ob_inv hf
          refine my_cVi (As := [.int v4]) (rest := []) ⟨hx, hb, hml, hown, hts⟩ (c_X6_isAttribute l dC dI cI hM hR hT hZ m_allRows m_allColumns m_rows m_columns m_cells m_cursor m_locked m_insert m_alarms m_rejects m_latest m_thrown m_streamLong m_at m_place m_orders m_escaped m_broken m_signBefore m_free z_m_waitsLong m_cutOff m_screen m_stream z_m_waits _ v4 r_20 hq_20) (cwV 1 hts gX6_answer_X6_isAttribute rfl rfl rfl (by decide +kernel) ⟨Nat.le_of_ble_eq_true rfl, Nat.le_of_ble_eq_true rfl⟩) hK hP hD hS hA 0 7 rfl rfl rfl hl.1 rfl (Nat.le_of_ble_eq_true rfl) dX6_answer_50 ⟨Nat.zero_le _, Nat.zero_le _⟩ (fun _ H locs hP hD hS => ?_)
          have hP : va_P (dC, dI) vwCl (wM hM hR hT hZ cI m_allRows m_allColumns m_rows m_columns m_cells m_cursor m_locked m_insert m_alarms m_rejects m_latest m_thrown m_streamLong m_at m_place m_orders m_escaped m_broken m_signBefore m_free z_m_waitsLong m_cutOff m_screen m_stream z_m_waits) H := hP
          have hD : va_D A (wM hM hR hT hZ cI m_allRows m_allColumns m_rows m_columns m_cells m_cursor m_locked m_insert m_alarms m_rejects m_latest m_thrown m_streamLong m_at m_place m_orders m_escaped m_broken m_signBefore m_free z_m_waitsLong m_cutOff m_screen m_stream z_m_waits) := hD
          refine lv_if_eq (tgt := 80) hx hb dX6_answer_53 (by decide) (fun c_21 => ?_) (fun c_21 => ?_)
          · have hf := (if_pos c_21).symm.trans hf
            refine lv_iload_n hx hb dX6_answer_80 rfl (lv_at hl 1 rfl) ?_
            refine lv_if_eq (tgt := 98) hx hb dX6_answer_81 (by decide) (fun c_22 => ?_) (fun c_22 => ?_)
            · have hf := (if_pos c_22).symm.trans hf
              refine lv_iload_n hx hb dX6_answer_98 rfl (lv_at hl 2 rfl) ?_
              refine lv_if_eq (tgt := 126) hx hb dX6_answer_99 (by decide) (fun c_23 => ?_) (fun c_23 => ?_)
              · have hf := (if_pos c_23).symm.trans hf
                refine lv_aload_n hx hb dX6_answer_126 rfl (lv_at hl 0 rfl) ?_
                refine lv_iload hx hb dX6_answer_127 (lv_at hl 3 rfl) ?_
                obtain ⟨r_24, hq_24, hf⟩ := ob_inv hf
                refine my_cVi (As := [.int v4]) (rest := []) ⟨hx, hb, hml, hown, hts⟩ (c_X6_isAttribute l dC dI cI hM hR hT hZ m_allRows m_allColumns m_rows m_columns m_cells m_cursor m_locked m_insert m_alarms m_rejects m_latest m_thrown m_streamLong m_at m_place m_orders m_escaped m_broken m_signBefore m_free z_m_waitsLong m_cutOff m_screen m_stream z_m_waits _ v4 r_24 hq_24) (cwV 1 hts gX6_answer_X6_isAttribute rfl rfl rfl (by decide +kernel) ⟨Nat.le_of_ble_eq_true rfl, Nat.le_of_ble_eq_true rfl⟩) hK hP hD hS hA 0 7 rfl rfl rfl hl.1 rfl (Nat.le_of_ble_eq_true rfl) dX6_answer_129 ⟨Nat.zero_le _, Nat.zero_le _⟩ (fun _ H locs hP hD hS => ?_)
                have hP : va_P (dC, dI) vwCl (wM hM hR hT hZ cI m_allRows m_allColumns m_rows m_columns m_cells m_cursor m_locked m_insert m_alarms m_rejects m_latest m_thrown m_streamLong m_at m_place m_orders m_escaped m_broken m_signBefore m_free z_m_waitsLong m_cutOff m_screen m_stream z_m_waits) H := hP
                have hD : va_D A (wM hM hR hT hZ cI m_allRows m_allColumns m_rows m_columns m_cells m_cursor m_locked m_insert m_alarms m_rejects m_latest m_thrown m_streamLong m_at m_place m_orders m_escaped m_broken m_signBefore m_free z_m_waitsLong m_cutOff m_screen m_stream z_m_waits) := hD
                refine lv_if_eq (tgt := 153) hx hb dX6_answer_132 (by decide) (fun c_25 => ?_) (fun c_25 => ?_)
                · have hf := (if_pos c_25).symm.trans hf
                  refine lv_iinc (v := v4 + 1) (lv' := [(4, .int (v4 + 1)), (0, .ref hM), (2, .int (b2i v2)), (3, .int v3)]) hx hb dX6_answer_153 hl (k := 3) rfl rfl (by decide) rfl (fun ls hl => ?_)
                  refine lv_goto (tgt := 34) hx hb dX6_answer_156 (by decide) ?_
                  exact ih v2 v3 (v4 + 1) z_m_waitsLong z_m_waits _ _ hf  hP hD hS ls (lv_sub hl [1, 2, 3, 0] rfl)
                · have hf := (if_neg c_25).symm.trans hf
                  refine lv_aload_n hx hb dX6_answer_135 rfl (lv_at hl 0 rfl) ?_
                  refine va_get (D := (dC, dI)) (ci := 7) (v := .ref hR) (C := RX6) (T := TX6) (N := 25) hx hb hts uu_X6_answer_X6 hown hK hP 0 rfl rfl 6 (by decide) (hts (.fieldLink RX6 7 "BlockScreenModel" "screen" "[I") (List.mem_of_getElem? (i := 4) rfl)) (fun _ h9 => h9) rfl dX6_answer_136 ?_
                  refine lv_iload hx hb dX6_answer_139 (lv_at hl 3 rfl) ?_
                  rcases Classical.em (v4 < 0 ∨ 5676 ≤ v4.toNatClampNeg) with c_26 | c_26
                  · exact nn_abs ((if_pos c_26).symm.trans hf)
                  have hf := (if_neg c_26).symm.trans hf
                  refine va_iald hx hb hK hP 1 0 rfl rfl c_26 dX6_answer_141 ?_
                  refine lv_iconst (v := 1) hx hb dX6_answer_142 (by decide) ?_
                  refine lv_iand hx hb dX6_answer_143 ?_
                  refine lv_if_eq (tgt := 153) hx hb dX6_answer_144 (by decide) (fun c_27 => ?_) (fun c_27 => ?_)
                  · have hf := (if_pos c_27).symm.trans hf
                    refine lv_iinc (v := v4 + 1) (lv' := [(4, .int (v4 + 1)), (0, .ref hM), (2, .int (b2i v2)), (3, .int v3)]) hx hb dX6_answer_153 hl (k := 3) rfl rfl (by decide) rfl (fun ls hl => ?_)
                    refine lv_goto (tgt := 34) hx hb dX6_answer_156 (by decide) ?_
                    exact ih v2 v3 (v4 + 1) z_m_waitsLong z_m_waits _ _ hf  hP hD hS ls (lv_sub hl [1, 2, 3, 0] rfl)
                  · have hf := (if_neg c_27).symm.trans hf
                    refine lv_aload_n hx hb dX6_answer_147 rfl (lv_at hl 0 rfl) ?_
                    refine lv_iload hx hb dX6_answer_148 (lv_at hl 3 rfl) ?_
                    obtain ⟨⟨m_waitsLong_28, m_waits_28⟩, hq_28, hf⟩ := ob_inv hf
                    refine my_cVv (As := [.int v4]) (rest := []) ⟨hx, hb, hml, hown, hts⟩ (c_X6_sendField l dC dI cI hM hR hT hZ m_allRows m_allColumns m_rows m_columns m_cells m_cursor m_locked m_insert m_alarms m_rejects m_latest m_thrown m_streamLong m_at m_place m_orders m_escaped m_broken m_signBefore m_free z_m_waitsLong m_cutOff m_screen m_stream z_m_waits _ v4 (m_waitsLong_28, m_waits_28) hq_28) (cwV 1 hts gX6_answer_X6_sendField rfl rfl rfl (by decide +kernel) ⟨Nat.le_of_ble_eq_true rfl, Nat.le_of_ble_eq_true rfl⟩) hK hP hD hS hA 0 7 rfl rfl rfl hl.1 rfl (Nat.le_of_ble_eq_true rfl) dX6_answer_150 ⟨Nat.zero_le _, Nat.zero_le _⟩ (fun _ H locs hP hD hS => ?_)
                    have hP : va_P (dC, dI) vwCl (wM hM hR hT hZ cI m_allRows m_allColumns m_rows m_columns m_cells m_cursor m_locked m_insert m_alarms m_rejects m_latest m_thrown m_streamLong m_at m_place m_orders m_escaped m_broken m_signBefore m_free m_waitsLong_28 m_cutOff m_screen m_stream m_waits_28) H := hP
                    have hD : va_D A (wM hM hR hT hZ cI m_allRows m_allColumns m_rows m_columns m_cells m_cursor m_locked m_insert m_alarms m_rejects m_latest m_thrown m_streamLong m_at m_place m_orders m_escaped m_broken m_signBefore m_free m_waitsLong_28 m_cutOff m_screen m_stream m_waits_28) := hD
                    refine lv_iinc (v := v4 + 1) (lv' := [(4, .int (v4 + 1)), (0, .ref hM), (2, .int (b2i v2)), (3, .int v3)]) hx hb dX6_answer_153 hl (k := 3) rfl rfl (by decide) rfl (fun ls hl => ?_)
                    refine lv_goto (tgt := 34) hx hb dX6_answer_156 (by decide) ?_
                    exact ih v2 v3 (v4 + 1) m_waitsLong_28 m_waits_28 _ _ hf  hP hD hS ls (lv_sub hl [1, 2, 3, 0] rfl)
              · have hf := (if_neg c_23).symm.trans hf
                refine lv_aload_n hx hb dX6_answer_102 rfl (lv_at hl 0 rfl) ?_
                refine va_get (D := (dC, dI)) (ci := 7) (v := .ref hR) (C := RX6) (T := TX6) (N := 25) hx hb hts uu_X6_answer_X6 hown hK hP 0 rfl rfl 6 (by decide) (hts (.fieldLink RX6 7 "BlockScreenModel" "screen" "[I") (List.mem_of_getElem? (i := 4) rfl)) (fun _ h9 => h9) rfl dX6_answer_103 ?_
                refine lv_iload hx hb dX6_answer_106 (lv_at hl 3 rfl) ?_
                rcases Classical.em (v4 < 0 ∨ 5676 ≤ v4.toNatClampNeg) with c_29 | c_29
                · exact nn_abs ((if_pos c_29).symm.trans hf)
                have hf := (if_neg c_29).symm.trans hf
                refine va_iald hx hb hK hP 1 0 rfl rfl c_29 dX6_answer_108 ?_
                refine lv_if_eq (tgt := 126) hx hb dX6_answer_109 (by decide) (fun c_30 => ?_) (fun c_30 => ?_)
                · have hf := (if_pos c_30).symm.trans hf
                  refine lv_aload_n hx hb dX6_answer_126 rfl (lv_at hl 0 rfl) ?_
                  refine lv_iload hx hb dX6_answer_127 (lv_at hl 3 rfl) ?_
                  obtain ⟨r_31, hq_31, hf⟩ := ob_inv hf
                  refine my_cVi (As := [.int v4]) (rest := []) ⟨hx, hb, hml, hown, hts⟩ (c_X6_isAttribute l dC dI cI hM hR hT hZ m_allRows m_allColumns m_rows m_columns m_cells m_cursor m_locked m_insert m_alarms m_rejects m_latest m_thrown m_streamLong m_at m_place m_orders m_escaped m_broken m_signBefore m_free z_m_waitsLong m_cutOff m_screen m_stream z_m_waits _ v4 r_31 hq_31) (cwV 1 hts gX6_answer_X6_isAttribute rfl rfl rfl (by decide +kernel) ⟨Nat.le_of_ble_eq_true rfl, Nat.le_of_ble_eq_true rfl⟩) hK hP hD hS hA 0 7 rfl rfl rfl hl.1 rfl (Nat.le_of_ble_eq_true rfl) dX6_answer_129 ⟨Nat.zero_le _, Nat.zero_le _⟩ (fun _ H locs hP hD hS => ?_)
                  have hP : va_P (dC, dI) vwCl (wM hM hR hT hZ cI m_allRows m_allColumns m_rows m_columns m_cells m_cursor m_locked m_insert m_alarms m_rejects m_latest m_thrown m_streamLong m_at m_place m_orders m_escaped m_broken m_signBefore m_free z_m_waitsLong m_cutOff m_screen m_stream z_m_waits) H := hP
                  have hD : va_D A (wM hM hR hT hZ cI m_allRows m_allColumns m_rows m_columns m_cells m_cursor m_locked m_insert m_alarms m_rejects m_latest m_thrown m_streamLong m_at m_place m_orders m_escaped m_broken m_signBefore m_free z_m_waitsLong m_cutOff m_screen m_stream z_m_waits) := hD
                  refine lv_if_eq (tgt := 153) hx hb dX6_answer_132 (by decide) (fun c_32 => ?_) (fun c_32 => ?_)
                  · have hf := (if_pos c_32).symm.trans hf
                    refine lv_iinc (v := v4 + 1) (lv' := [(4, .int (v4 + 1)), (0, .ref hM), (2, .int (b2i v2)), (3, .int v3)]) hx hb dX6_answer_153 hl (k := 3) rfl rfl (by decide) rfl (fun ls hl => ?_)
                    refine lv_goto (tgt := 34) hx hb dX6_answer_156 (by decide) ?_
                    exact ih v2 v3 (v4 + 1) z_m_waitsLong z_m_waits _ _ hf  hP hD hS ls (lv_sub hl [1, 2, 3, 0] rfl)
                  · have hf := (if_neg c_32).symm.trans hf
                    refine lv_aload_n hx hb dX6_answer_135 rfl (lv_at hl 0 rfl) ?_
                    refine va_get (D := (dC, dI)) (ci := 7) (v := .ref hR) (C := RX6) (T := TX6) (N := 25) hx hb hts uu_X6_answer_X6 hown hK hP 0 rfl rfl 6 (by decide) (hts (.fieldLink RX6 7 "BlockScreenModel" "screen" "[I") (List.mem_of_getElem? (i := 4) rfl)) (fun _ h9 => h9) rfl dX6_answer_136 ?_
                    refine lv_iload hx hb dX6_answer_139 (lv_at hl 3 rfl) ?_
                    refine va_iald hx hb hK hP 1 0 rfl rfl c_29 dX6_answer_141 ?_
                    refine lv_iconst (v := 1) hx hb dX6_answer_142 (by decide) ?_
                    refine lv_iand hx hb dX6_answer_143 ?_
                    refine lv_if_eq (tgt := 153) hx hb dX6_answer_144 (by decide) (fun c_33 => ?_) (fun c_33 => ?_)
                    · have hf := (if_pos c_33).symm.trans hf
                      refine lv_iinc (v := v4 + 1) (lv' := [(4, .int (v4 + 1)), (0, .ref hM), (2, .int (b2i v2)), (3, .int v3)]) hx hb dX6_answer_153 hl (k := 3) rfl rfl (by decide) rfl (fun ls hl => ?_)
                      refine lv_goto (tgt := 34) hx hb dX6_answer_156 (by decide) ?_
                      exact ih v2 v3 (v4 + 1) z_m_waitsLong z_m_waits _ _ hf  hP hD hS ls (lv_sub hl [1, 2, 3, 0] rfl)
                    · have hf := (if_neg c_33).symm.trans hf
                      refine lv_aload_n hx hb dX6_answer_147 rfl (lv_at hl 0 rfl) ?_
                      refine lv_iload hx hb dX6_answer_148 (lv_at hl 3 rfl) ?_
                      obtain ⟨⟨m_waitsLong_34, m_waits_34⟩, hq_34, hf⟩ := ob_inv hf
                      refine my_cVv (As := [.int v4]) (rest := []) ⟨hx, hb, hml, hown, hts⟩ (c_X6_sendField l dC dI cI hM hR hT hZ m_allRows m_allColumns m_rows m_columns m_cells m_cursor m_locked m_insert m_alarms m_rejects m_latest m_thrown m_streamLong m_at m_place m_orders m_escaped m_broken m_signBefore m_free z_m_waitsLong m_cutOff m_screen m_stream z_m_waits _ v4 (m_waitsLong_34, m_waits_34) hq_34) (cwV 1 hts gX6_answer_X6_sendField rfl rfl rfl (by decide +kernel) ⟨Nat.le_of_ble_eq_true rfl, Nat.le_of_ble_eq_true rfl⟩) hK hP hD hS hA 0 7 rfl rfl rfl hl.1 rfl (Nat.le_of_ble_eq_true rfl) dX6_answer_150 ⟨Nat.zero_le _, Nat.zero_le _⟩ (fun _ H locs hP hD hS => ?_)
                      have hP : va_P (dC, dI) vwCl (wM hM hR hT hZ cI m_allRows m_allColumns m_rows m_columns m_cells m_cursor m_locked m_insert m_alarms m_rejects m_latest m_thrown m_streamLong m_at m_place m_orders m_escaped m_broken m_signBefore m_free m_waitsLong_34 m_cutOff m_screen m_stream m_waits_34) H := hP
                      have hD : va_D A (wM hM hR hT hZ cI m_allRows m_allColumns m_rows m_columns m_cells m_cursor m_locked m_insert m_alarms m_rejects m_latest m_thrown m_streamLong m_at m_place m_orders m_escaped m_broken m_signBefore m_free m_waitsLong_34 m_cutOff m_screen m_stream m_waits_34) := hD
                      refine lv_iinc (v := v4 + 1) (lv' := [(4, .int (v4 + 1)), (0, .ref hM), (2, .int (b2i v2)), (3, .int v3)]) hx hb dX6_answer_153 hl (k := 3) rfl rfl (by decide) rfl (fun ls hl => ?_)
                      refine lv_goto (tgt := 34) hx hb dX6_answer_156 (by decide) ?_
                      exact ih v2 v3 (v4 + 1) m_waitsLong_34 m_waits_34 _ _ hf  hP hD hS ls (lv_sub hl [1, 2, 3, 0] rfl)
                · have hf := (if_neg c_30).symm.trans hf
                  refine lv_aload_n hx hb dX6_answer_112 rfl (lv_at hl 0 rfl) ?_
                  refine lv_aload_n hx hb dX6_answer_113 rfl (lv_at hl 0 rfl) ?_
                  refine va_get (D := (dC, dI)) (ci := 7) (v := .ref hR) (C := RX6) (T := TX6) (N := 25) hx hb hts uu_X6_answer_X6 hown hK hP 0 rfl rfl 6 (by decide) (hts (.fieldLink RX6 7 "BlockScreenModel" "screen" "[I") (List.mem_of_getElem? (i := 4) rfl)) (fun _ h9 => h9) rfl dX6_answer_114 ?_
                  refine lv_iload hx hb dX6_answer_117 (lv_at hl 3 rfl) ?_
                  refine va_iald hx hb hK hP 1 0 rfl rfl c_29 dX6_answer_119 ?_
                  obtain ⟨⟨m_waitsLong_35, m_waits_35⟩, hq_35, hf⟩ := ob_inv hf
                  refine my_cVv (As := [.int (m_screen v4.toNatClampNeg)]) (rest := []) ⟨hx, hb, hml, hown, hts⟩ (c_X6_send l dC dI cI hM hR hT hZ m_allRows m_allColumns m_rows m_columns m_cells m_cursor m_locked m_insert m_alarms m_rejects m_latest m_thrown m_streamLong m_at m_place m_orders m_escaped m_broken m_signBefore m_free z_m_waitsLong m_cutOff m_screen m_stream z_m_waits _ (m_screen v4.toNatClampNeg) (m_waitsLong_35, m_waits_35) hq_35) (cwV 1 hts gX6_answer_X6_send rfl rfl rfl (by decide +kernel) ⟨Nat.le_of_ble_eq_true rfl, Nat.le_of_ble_eq_true rfl⟩) hK hP hD hS hA 0 7 rfl rfl rfl hl.1 rfl (Nat.le_of_ble_eq_true rfl) dX6_answer_120 ⟨Nat.zero_le _, Nat.zero_le _⟩ (fun _ H locs hP hD hS => ?_)
                  have hP : va_P (dC, dI) vwCl (wM hM hR hT hZ cI m_allRows m_allColumns m_rows m_columns m_cells m_cursor m_locked m_insert m_alarms m_rejects m_latest m_thrown m_streamLong m_at m_place m_orders m_escaped m_broken m_signBefore m_free m_waitsLong_35 m_cutOff m_screen m_stream m_waits_35) H := hP
                  have hD : va_D A (wM hM hR hT hZ cI m_allRows m_allColumns m_rows m_columns m_cells m_cursor m_locked m_insert m_alarms m_rejects m_latest m_thrown m_streamLong m_at m_place m_orders m_escaped m_broken m_signBefore m_free m_waitsLong_35 m_cutOff m_screen m_stream m_waits_35) := hD
                  refine lv_goto (tgt := 153) hx hb dX6_answer_123 (by decide) ?_
                  refine lv_iinc (v := v4 + 1) (lv' := [(4, .int (v4 + 1)), (0, .ref hM), (2, .int (b2i v2)), (3, .int v3)]) hx hb dX6_answer_153 hl (k := 3) rfl rfl (by decide) rfl (fun ls hl => ?_)
                  refine lv_goto (tgt := 34) hx hb dX6_answer_156 (by decide) ?_
                  exact ih v2 v3 (v4 + 1) m_waitsLong_35 m_waits_35 _ _ hf  hP hD hS ls (lv_sub hl [1, 2, 3, 0] rfl)
            · have hf := (if_neg c_22).symm.trans hf
              refine lv_aload_n hx hb dX6_answer_84 rfl (lv_at hl 0 rfl) ?_
              refine lv_aload_n hx hb dX6_answer_85 rfl (lv_at hl 0 rfl) ?_
              refine va_get (D := (dC, dI)) (ci := 7) (v := .ref hR) (C := RX6) (T := TX6) (N := 25) hx hb hts uu_X6_answer_X6 hown hK hP 0 rfl rfl 6 (by decide) (hts (.fieldLink RX6 7 "BlockScreenModel" "screen" "[I") (List.mem_of_getElem? (i := 4) rfl)) (fun _ h9 => h9) rfl dX6_answer_86 ?_
              refine lv_iload hx hb dX6_answer_89 (lv_at hl 3 rfl) ?_
              rcases Classical.em (v4 < 0 ∨ 5676 ≤ v4.toNatClampNeg) with c_36 | c_36
              · exact nn_abs ((if_pos c_36).symm.trans hf)
              have hf := (if_neg c_36).symm.trans hf
              refine va_iald hx hb hK hP 1 0 rfl rfl c_36 dX6_answer_91 ?_
              obtain ⟨⟨m_waitsLong_37, m_waits_37⟩, hq_37, hf⟩ := ob_inv hf
              refine my_cVv (As := [.int (m_screen v4.toNatClampNeg)]) (rest := []) ⟨hx, hb, hml, hown, hts⟩ (c_X6_send l dC dI cI hM hR hT hZ m_allRows m_allColumns m_rows m_columns m_cells m_cursor m_locked m_insert m_alarms m_rejects m_latest m_thrown m_streamLong m_at m_place m_orders m_escaped m_broken m_signBefore m_free z_m_waitsLong m_cutOff m_screen m_stream z_m_waits _ (m_screen v4.toNatClampNeg) (m_waitsLong_37, m_waits_37) hq_37) (cwV 1 hts gX6_answer_X6_send rfl rfl rfl (by decide +kernel) ⟨Nat.le_of_ble_eq_true rfl, Nat.le_of_ble_eq_true rfl⟩) hK hP hD hS hA 0 7 rfl rfl rfl hl.1 rfl (Nat.le_of_ble_eq_true rfl) dX6_answer_92 ⟨Nat.zero_le _, Nat.zero_le _⟩ (fun _ H locs hP hD hS => ?_)
              have hP : va_P (dC, dI) vwCl (wM hM hR hT hZ cI m_allRows m_allColumns m_rows m_columns m_cells m_cursor m_locked m_insert m_alarms m_rejects m_latest m_thrown m_streamLong m_at m_place m_orders m_escaped m_broken m_signBefore m_free m_waitsLong_37 m_cutOff m_screen m_stream m_waits_37) H := hP
              have hD : va_D A (wM hM hR hT hZ cI m_allRows m_allColumns m_rows m_columns m_cells m_cursor m_locked m_insert m_alarms m_rejects m_latest m_thrown m_streamLong m_at m_place m_orders m_escaped m_broken m_signBefore m_free m_waitsLong_37 m_cutOff m_screen m_stream m_waits_37) := hD
              refine lv_goto (tgt := 153) hx hb dX6_answer_95 (by decide) ?_
              refine lv_iinc (v := v4 + 1) (lv' := [(4, .int (v4 + 1)), (0, .ref hM), (2, .int (b2i v2)), (3, .int v3)]) hx hb dX6_answer_153 hl (k := 3) rfl rfl (by decide) rfl (fun ls hl => ?_)
              refine lv_goto (tgt := 34) hx hb dX6_answer_156 (by decide) ?_
              exact ih v2 v3 (v4 + 1) m_waitsLong_37 m_waits_37 _ _ hf  hP hD hS ls (lv_sub hl [1, 2, 3, 0] rfl)
          · have hf := (if_neg c_21).symm.trans hf
            refine lv_aload_n hx hb dX6_answer_56 rfl (lv_at hl 0 rfl) ?_
            refine lv_bipush (v := 29) hx hb dX6_answer_57 (by decide) ?_
            obtain ⟨⟨m_waitsLong_38, m_waits_38⟩, hq_38, hf⟩ := ob_inv hf
            refine my_cVv (As := [.int 29]) (rest := []) ⟨hx, hb, hml, hown, hts⟩ (c_X6_send l dC dI cI hM hR hT hZ m_allRows m_allColumns m_rows m_columns m_cells m_cursor m_locked m_insert m_alarms m_rejects m_latest m_thrown m_streamLong m_at m_place m_orders m_escaped m_broken m_signBefore m_free z_m_waitsLong m_cutOff m_screen m_stream z_m_waits _ 29 (m_waitsLong_38, m_waits_38) hq_38) (cwV 1 hts gX6_answer_X6_send rfl rfl rfl (by decide +kernel) ⟨Nat.le_of_ble_eq_true rfl, Nat.le_of_ble_eq_true rfl⟩) hK hP hD hS hA 0 7 rfl rfl rfl hl.1 rfl (Nat.le_of_ble_eq_true rfl) dX6_answer_59 ⟨Nat.zero_le _, Nat.zero_le _⟩ (fun _ H locs hP hD hS => ?_)
            have hP : va_P (dC, dI) vwCl (wM hM hR hT hZ cI m_allRows m_allColumns m_rows m_columns m_cells m_cursor m_locked m_insert m_alarms m_rejects m_latest m_thrown m_streamLong m_at m_place m_orders m_escaped m_broken m_signBefore m_free m_waitsLong_38 m_cutOff m_screen m_stream m_waits_38) H := hP
            have hD : va_D A (wM hM hR hT hZ cI m_allRows m_allColumns m_rows m_columns m_cells m_cursor m_locked m_insert m_alarms m_rejects m_latest m_thrown m_streamLong m_at m_place m_orders m_escaped m_broken m_signBefore m_free m_waitsLong_38 m_cutOff m_screen m_stream m_waits_38) := hD
            refine lv_aload_n hx hb dX6_answer_62 rfl (lv_at hl 0 rfl) ?_
            refine lv_aload_n hx hb dX6_answer_63 rfl (lv_at hl 0 rfl) ?_
            refine va_get (D := (dC, dI)) (ci := 7) (v := .ref hR) (C := RX6) (T := TX6) (N := 25) hx hb hts uu_X6_answer_X6 hown hK hP 0 rfl rfl 6 (by decide) (hts (.fieldLink RX6 7 "BlockScreenModel" "screen" "[I") (List.mem_of_getElem? (i := 4) rfl)) (fun _ h9 => h9) rfl dX6_answer_64 ?_
            refine lv_iload hx hb dX6_answer_67 (lv_at hl 3 rfl) ?_
            rcases Classical.em (v4 < 0 ∨ 5676 ≤ v4.toNatClampNeg) with c_39 | c_39
            · exact nn_abs ((if_pos c_39).symm.trans hf)
            have hf := (if_neg c_39).symm.trans hf
            refine va_iald hx hb hK hP 1 0 rfl rfl c_39 dX6_answer_69 ?_
            refine lv_sipush (v := 256) hx hb dX6_answer_70 (by decide) ?_
            refine lv_isub hx hb dX6_answer_73 ?_
            obtain ⟨⟨m_waitsLong_40, m_waits_40⟩, hq_40, hf⟩ := ob_inv hf
            refine my_cVv (As := [.int ((m_screen v4.toNatClampNeg) - 256)]) (rest := []) ⟨hx, hb, hml, hown, hts⟩ (c_X6_send l dC dI cI hM hR hT hZ m_allRows m_allColumns m_rows m_columns m_cells m_cursor m_locked m_insert m_alarms m_rejects m_latest m_thrown m_streamLong m_at m_place m_orders m_escaped m_broken m_signBefore m_free m_waitsLong_38 m_cutOff m_screen m_stream m_waits_38 _ ((m_screen v4.toNatClampNeg) - 256) (m_waitsLong_40, m_waits_40) hq_40) (cwV 1 hts gX6_answer_X6_send rfl rfl rfl (by decide +kernel) ⟨Nat.le_of_ble_eq_true rfl, Nat.le_of_ble_eq_true rfl⟩) hK hP hD hS hA 0 7 rfl rfl rfl hl.1 rfl (Nat.le_of_ble_eq_true rfl) dX6_answer_74 ⟨Nat.zero_le _, Nat.zero_le _⟩ (fun _ H locs hP hD hS => ?_)
            have hP : va_P (dC, dI) vwCl (wM hM hR hT hZ cI m_allRows m_allColumns m_rows m_columns m_cells m_cursor m_locked m_insert m_alarms m_rejects m_latest m_thrown m_streamLong m_at m_place m_orders m_escaped m_broken m_signBefore m_free m_waitsLong_40 m_cutOff m_screen m_stream m_waits_40) H := hP
            have hD : va_D A (wM hM hR hT hZ cI m_allRows m_allColumns m_rows m_columns m_cells m_cursor m_locked m_insert m_alarms m_rejects m_latest m_thrown m_streamLong m_at m_place m_orders m_escaped m_broken m_signBefore m_free m_waitsLong_40 m_cutOff m_screen m_stream m_waits_40) := hD
            refine lv_goto (tgt := 153) hx hb dX6_answer_77 (by decide) ?_
            refine lv_iinc (v := v4 + 1) (lv' := [(4, .int (v4 + 1)), (0, .ref hM), (2, .int (b2i v2)), (3, .int v3)]) hx hb dX6_answer_153 hl (k := 3) rfl rfl (by decide) rfl (fun ls hl => ?_)
            refine lv_goto (tgt := 34) hx hb dX6_answer_156 (by decide) ?_
            exact ih v2 v3 (v4 + 1) m_waitsLong_40 m_waits_40 _ _ hf  hP hD hS ls (lv_sub hl [1, 2, 3, 0] rfl)
  unfold f_X6_answer at hf
  refine lv_aload_n hx hb dX6_answer_0 rfl (lv_at hl 0 rfl) ?_
  refine lv_iconst (v := 0) hx hb dX6_answer_1 (by decide) ?_
  refine va_put (D := (dC, dI)) (ci := 7) (v := .int 0) (C := RX6) (T := TX6) (N := 25) hx hb hts uu_X6_answer_X6 tyX6 tyX6_ok nmX6 hown hK hP hD hS 0 rfl rfl 23 (by decide) (hts (.fieldLink RX6 137 "BlockScreenModel" "waitsLong" "I") (List.mem_of_getElem? (i := 1) rfl)) (fun _ h9 => h9) rfl (tyX6_ok 23 (by decide)) rfl rfl (Nat.le_of_ble_eq_true rfl) dX6_answer_2 (fun H locs hP hD hS => ?_)
  have hP : va_P (dC, dI) vwCl (wM hM hR hT hZ cI m_allRows m_allColumns m_rows m_columns m_cells m_cursor m_locked m_insert m_alarms m_rejects m_latest m_thrown m_streamLong m_at m_place m_orders m_escaped m_broken m_signBefore m_free 0 m_cutOff m_screen m_stream m_waits) H := hP
  have hD : va_D A (wM hM hR hT hZ cI m_allRows m_allColumns m_rows m_columns m_cells m_cursor m_locked m_insert m_alarms m_rejects m_latest m_thrown m_streamLong m_at m_place m_orders m_escaped m_broken m_signBefore m_free 0 m_cutOff m_screen m_stream m_waits) := hD
  refine lv_aload_n hx hb dX6_answer_5 rfl (lv_at hl 0 rfl) ?_
  refine lv_iload_n hx hb dX6_answer_6 rfl (lv_at hl 1 rfl) ?_
  obtain ⟨⟨m_waitsLong_41, m_waits_41⟩, hq_41, hf⟩ := ob_inv hf
  refine my_cVv (As := [.int a1]) (rest := []) ⟨hx, hb, hml, hown, hts⟩ (c_X6_send l dC dI cI hM hR hT hZ m_allRows m_allColumns m_rows m_columns m_cells m_cursor m_locked m_insert m_alarms m_rejects m_latest m_thrown m_streamLong m_at m_place m_orders m_escaped m_broken m_signBefore m_free 0 m_cutOff m_screen m_stream m_waits _ a1 (m_waitsLong_41, m_waits_41) hq_41) (cwV 1 hts gX6_answer_X6_send rfl rfl rfl (by decide +kernel) ⟨Nat.le_of_ble_eq_true rfl, Nat.le_of_ble_eq_true rfl⟩) hK hP hD hS hA 0 7 rfl rfl rfl hl.1 rfl (Nat.le_of_ble_eq_true rfl) dX6_answer_7 ⟨Nat.zero_le _, Nat.zero_le _⟩ (fun _ H locs hP hD hS => ?_)
  have hP : va_P (dC, dI) vwCl (wM hM hR hT hZ cI m_allRows m_allColumns m_rows m_columns m_cells m_cursor m_locked m_insert m_alarms m_rejects m_latest m_thrown m_streamLong m_at m_place m_orders m_escaped m_broken m_signBefore m_free m_waitsLong_41 m_cutOff m_screen m_stream m_waits_41) H := hP
  have hD : va_D A (wM hM hR hT hZ cI m_allRows m_allColumns m_rows m_columns m_cells m_cursor m_locked m_insert m_alarms m_rejects m_latest m_thrown m_streamLong m_at m_place m_orders m_escaped m_broken m_signBefore m_free m_waitsLong_41 m_cutOff m_screen m_stream m_waits_41) := hD
  refine lv_aload_n hx hb dX6_answer_10 rfl (lv_at hl 0 rfl) ?_
  refine lv_aload_n hx hb dX6_answer_11 rfl (lv_at hl 0 rfl) ?_
  refine va_get (D := (dC, dI)) (ci := 7) (v := .int m_cursor) (C := RX6) (T := TX6) (N := 25) hx hb hts uu_X6_answer_X6 hown hK hP 0 rfl rfl 5 (by decide) (hts (.fieldLink RX6 49 "BlockScreenModel" "cursor" "I") (List.mem_of_getElem? (i := 2) rfl)) (fun _ h9 => h9) rfl dX6_answer_12 ?_
  obtain ⟨⟨m_waitsLong_42, m_waits_42⟩, hq_42, hf⟩ := ob_inv hf
  refine my_cVv (As := [.int m_cursor]) (rest := []) ⟨hx, hb, hml, hown, hts⟩ (c_X6_sendAddress l dC dI cI hM hR hT hZ m_allRows m_allColumns m_rows m_columns m_cells m_cursor m_locked m_insert m_alarms m_rejects m_latest m_thrown m_streamLong m_at m_place m_orders m_escaped m_broken m_signBefore m_free m_waitsLong_41 m_cutOff m_screen m_stream m_waits_41 _ m_cursor (m_waitsLong_42, m_waits_42) hq_42) (cwV 1 hts gX6_answer_X6_sendAddress rfl rfl rfl (by decide +kernel) ⟨Nat.le_of_ble_eq_true rfl, Nat.le_of_ble_eq_true rfl⟩) hK hP hD hS hA 0 7 rfl rfl rfl hl.1 rfl (Nat.le_of_ble_eq_true rfl) dX6_answer_15 ⟨Nat.zero_le _, Nat.zero_le _⟩ (fun _ H locs hP hD hS => ?_)
  have hP : va_P (dC, dI) vwCl (wM hM hR hT hZ cI m_allRows m_allColumns m_rows m_columns m_cells m_cursor m_locked m_insert m_alarms m_rejects m_latest m_thrown m_streamLong m_at m_place m_orders m_escaped m_broken m_signBefore m_free m_waitsLong_42 m_cutOff m_screen m_stream m_waits_42) H := hP
  have hD : va_D A (wM hM hR hT hZ cI m_allRows m_allColumns m_rows m_columns m_cells m_cursor m_locked m_insert m_alarms m_rejects m_latest m_thrown m_streamLong m_at m_place m_orders m_escaped m_broken m_signBefore m_free m_waitsLong_42 m_cutOff m_screen m_stream m_waits_42) := hD
  refine lv_aload_n hx hb dX6_answer_18 rfl (lv_at hl 0 rfl) ?_
  obtain ⟨r_43, hq_43, hf⟩ := ob_inv hf
  refine my_cVi (As := []) (rest := []) ⟨hx, hb, hml, hown, hts⟩ (c_X6_fields l dC dI cI hM hR hT hZ m_allRows m_allColumns m_rows m_columns m_cells m_cursor m_locked m_insert m_alarms m_rejects m_latest m_thrown m_streamLong m_at m_place m_orders m_escaped m_broken m_signBefore m_free m_waitsLong_42 m_cutOff m_screen m_stream m_waits_42 _  r_43 hq_43) (cwV 0 hts gX6_answer_X6_fields rfl rfl rfl (by decide +kernel) ⟨Nat.le_of_ble_eq_true rfl, Nat.le_of_ble_eq_true rfl⟩) hK hP hD hS hA 0 7 rfl rfl rfl hl.1 rfl (Nat.le_of_ble_eq_true rfl) dX6_answer_19 ⟨Nat.zero_le _, Nat.zero_le _⟩ (fun _ H locs hP hD hS => ?_)
  have hP : va_P (dC, dI) vwCl (wM hM hR hT hZ cI m_allRows m_allColumns m_rows m_columns m_cells m_cursor m_locked m_insert m_alarms m_rejects m_latest m_thrown m_streamLong m_at m_place m_orders m_escaped m_broken m_signBefore m_free m_waitsLong_42 m_cutOff m_screen m_stream m_waits_42) H := hP
  have hD : va_D A (wM hM hR hT hZ cI m_allRows m_allColumns m_rows m_columns m_cells m_cursor m_locked m_insert m_alarms m_rejects m_latest m_thrown m_streamLong m_at m_place m_orders m_escaped m_broken m_signBefore m_free m_waitsLong_42 m_cutOff m_screen m_stream m_waits_42) := hD
  refine lv_if_ne (tgt := 29) hx hb dX6_answer_22 (by decide) (fun c_44 => ?_) (fun c_44 => ?_)
  · have hf := (if_neg c_44).symm.trans hf
    refine lv_iconst (v := 0) hx hb dX6_answer_29 (by decide) ?_
    refine lv_istore_n (lv' := [(3, .int 0), (0, .ref hM), (1, .int a1), (2, .int (b2i a2))]) hx hb dX6_answer_30 rfl hl (by decide) rfl (fun ls hl => ?_)
    refine lv_iconst (v := 0) hx hb dX6_answer_31 (by decide) ?_
    refine lv_istore (lv' := [(4, .int 0), (3, .int 0), (0, .ref hM), (1, .int a1), (2, .int (b2i a2))]) hx hb dX6_answer_32 hl (by decide) rfl (fun ls hl => ?_)
    exact L34 FU a2 0 0 m_waitsLong_42 m_waits_42 _ _ hf  hP hD hS ls (lv_sub hl [2, 4, 1, 0] rfl)
  · have hf := (if_pos c_44).symm.trans hf
    refine lv_iconst (v := 1) hx hb dX6_answer_25 (by decide) ?_
    refine lv_goto (tgt := 30) hx hb dX6_answer_26 (by decide) ?_
    refine lv_istore_n (lv' := [(3, .int 1), (0, .ref hM), (1, .int a1), (2, .int (b2i a2))]) hx hb dX6_answer_30 rfl hl (by decide) rfl (fun ls hl => ?_)
    refine lv_iconst (v := 0) hx hb dX6_answer_31 (by decide) ?_
    refine lv_istore (lv' := [(4, .int 0), (3, .int 1), (0, .ref hM), (1, .int a1), (2, .int (b2i a2))]) hx hb dX6_answer_32 hl (by decide) rfl (fun ls hl => ?_)
    exact L34 FU a2 1 0 m_waitsLong_42 m_waits_42 _ _ hf  hP hD hS ls (lv_sub hl [2, 4, 1, 0] rfl)

theorem uu_X6_perform_X6 : ∀ w ∈ u_ws RX6 TX6 25, w ∈ wsX6_perform := fun _ h => List.mem_cons_of_mem _ (List.mem_append_right _ h)
def f_X6_perform_L204 (m_allRows : Int32) (m_allColumns : Int32) (m_latest : Int32) (m_streamLong : Int32) (m_stream : Nat → Int32) (v1 : Bool) (z_m_rows : Int32) (z_m_columns : Int32) (z_m_cells : Int32) (z_m_cursor : Int32) (z_m_locked : Bool) (z_m_alarms : Int32) (z_m_rejects : Int32) (z_m_at : Int32) (z_m_place : Int32) (z_m_orders : Int32) (z_m_broken : Bool) (z_m_signBefore : Bool) (z_m_free : Bool) (z_m_waitsLong : Int32) (z_m_screen : Nat → Int32) (z_m_waits : Nat → Int32) : Option (Int32 × Int32 × Int32 × Int32 × Bool × Int32 × Int32 × Int32 × Int32 × Int32 × Bool × Bool × Bool × Int32 × (Nat → Int32) × (Nat → Int32)) :=
    if (b2i v1) = 0 then
    if (b2i z_m_broken) = 0 then
    if (b2i z_m_free) = 0 then
    some (z_m_rows, z_m_columns, z_m_cells, z_m_cursor, z_m_locked, z_m_alarms, z_m_rejects, z_m_at, z_m_place, z_m_orders, z_m_broken, z_m_signBefore, z_m_free, z_m_waitsLong, z_m_screen, z_m_waits)
    else
    some (z_m_rows, z_m_columns, z_m_cells, z_m_cursor, false, z_m_alarms, z_m_rejects, z_m_at, z_m_place, z_m_orders, z_m_broken, z_m_signBefore, z_m_free, 0, z_m_screen, z_m_waits)
    else
    thn (f_X6_lock z_m_locked) (fun m_locked_4 =>
    some (z_m_rows, z_m_columns, z_m_cells, z_m_cursor, m_locked_4, z_m_alarms, z_m_rejects + 1, z_m_at, z_m_place, z_m_orders, z_m_broken, z_m_signBefore, z_m_free, z_m_waitsLong, z_m_screen, z_m_waits))
    else
    thn (f_X6_lock z_m_locked) (fun m_locked_6 =>
    some (z_m_rows, z_m_columns, z_m_cells, z_m_cursor, m_locked_6, z_m_alarms, z_m_rejects + 1, z_m_at, z_m_place, z_m_orders, true, z_m_signBefore, z_m_free, z_m_waitsLong, z_m_screen, z_m_waits))
def f_X6_perform_L182 (m_allRows : Int32) (m_allColumns : Int32) (m_latest : Int32) (m_streamLong : Int32) (m_stream : Nat → Int32) (v1 : Bool) (z_m_rows : Int32) (z_m_columns : Int32) (z_m_cells : Int32) (z_m_cursor : Int32) (z_m_locked : Bool) (z_m_alarms : Int32) (z_m_rejects : Int32) (z_m_at : Int32) (z_m_place : Int32) (z_m_orders : Int32) (z_m_broken : Bool) (z_m_signBefore : Bool) (z_m_free : Bool) (z_m_waitsLong : Int32) (z_m_screen : Nat → Int32) (z_m_waits : Nat → Int32) : Option (Int32 × Int32 × Int32 × Int32 × Bool × Int32 × Int32 × Int32 × Int32 × Int32 × Bool × Bool × Bool × Int32 × (Nat → Int32) × (Nat → Int32)) :=
    if (b2i z_m_broken) = 0 then
    if m_streamLong ≤ z_m_at then
    f_X6_perform_L204 m_allRows m_allColumns m_latest m_streamLong m_stream  v1 z_m_rows z_m_columns z_m_cells z_m_cursor z_m_locked z_m_alarms z_m_rejects z_m_at z_m_place z_m_orders z_m_broken z_m_signBefore z_m_free z_m_waitsLong z_m_screen z_m_waits
    else
    thn (f_X6_rejected z_m_broken) (fun m_broken_9 =>
    f_X6_perform_L204 m_allRows m_allColumns m_latest m_streamLong m_stream  v1 z_m_rows z_m_columns z_m_cells z_m_cursor z_m_locked z_m_alarms z_m_rejects z_m_at z_m_place z_m_orders m_broken_9 z_m_signBefore z_m_free z_m_waitsLong z_m_screen z_m_waits)
    else
    f_X6_perform_L204 m_allRows m_allColumns m_latest m_streamLong m_stream  v1 z_m_rows z_m_columns z_m_cells z_m_cursor z_m_locked z_m_alarms z_m_rejects z_m_at z_m_place z_m_orders z_m_broken z_m_signBefore z_m_free z_m_waitsLong z_m_screen z_m_waits
def f_X6_perform_L91 (m_allRows : Int32) (m_allColumns : Int32) (m_latest : Int32) (m_streamLong : Int32) (m_stream : Nat → Int32) (v1 : Bool) (v2 : Int32) (v3 : Bool) (z_m_rows : Int32) (z_m_columns : Int32) (z_m_cells : Int32) (z_m_cursor : Int32) (z_m_locked : Bool) (z_m_alarms : Int32) (z_m_rejects : Int32) (z_m_at : Int32) (z_m_place : Int32) (z_m_orders : Int32) (z_m_broken : Bool) (z_m_signBefore : Bool) (z_m_free : Bool) (z_m_waitsLong : Int32) (z_m_screen : Nat → Int32) (z_m_waits : Nat → Int32) : Option (Int32 × Int32 × Int32 × Int32 × Bool × Int32 × Int32 × Int32 × Int32 × Int32 × Bool × Bool × Bool × Int32 × (Nat → Int32) × (Nat → Int32)) :=
    if v2 = 245 then
    Option.bind (f_X6_write z_m_cells z_m_cursor z_m_alarms m_streamLong z_m_at z_m_place z_m_orders z_m_broken z_m_signBefore z_m_free z_m_screen m_stream) (fun (m_cursor_11, m_alarms_11, m_at_11, m_place_11, m_orders_11, m_broken_11, m_signBefore_11, m_free_11, m_screen_11) =>
    f_X6_perform_L182 m_allRows m_allColumns m_latest m_streamLong m_stream  v1 z_m_rows z_m_columns z_m_cells m_cursor_11 z_m_locked m_alarms_11 z_m_rejects m_at_11 m_place_11 m_orders_11 m_broken_11 m_signBefore_11 m_free_11 z_m_waitsLong m_screen_11 z_m_waits)
    else
    if v2 = 126 then
    Option.bind (f_X6_write z_m_cells z_m_cursor z_m_alarms m_streamLong z_m_at z_m_place z_m_orders z_m_broken z_m_signBefore z_m_free z_m_screen m_stream) (fun (m_cursor_13, m_alarms_13, m_at_13, m_place_13, m_orders_13, m_broken_13, m_signBefore_13, m_free_13, m_screen_13) =>
    f_X6_perform_L182 m_allRows m_allColumns m_latest m_streamLong m_stream  v1 z_m_rows z_m_columns z_m_cells m_cursor_13 z_m_locked m_alarms_13 z_m_rejects m_at_13 m_place_13 m_orders_13 m_broken_13 m_signBefore_13 m_free_13 z_m_waitsLong m_screen_13 z_m_waits)
    else
    if v2 = 241 then
    Option.bind (f_X6_write z_m_cells z_m_cursor z_m_alarms m_streamLong z_m_at z_m_place z_m_orders z_m_broken z_m_signBefore z_m_free z_m_screen m_stream) (fun (m_cursor_26, m_alarms_26, m_at_26, m_place_26, m_orders_26, m_broken_26, m_signBefore_26, m_free_26, m_screen_26) =>
    f_X6_perform_L182 m_allRows m_allColumns m_latest m_streamLong m_stream  v1 z_m_rows z_m_columns z_m_cells m_cursor_26 z_m_locked m_alarms_26 z_m_rejects m_at_26 m_place_26 m_orders_26 m_broken_26 m_signBefore_26 m_free_26 z_m_waitsLong m_screen_26 z_m_waits)
    else
    if v2 = 111 then
    Option.bind (f_X6_eraseInput z_m_cells z_m_cursor z_m_waitsLong z_m_screen) (fun (m_cursor_25, m_waitsLong_25, m_screen_25) =>
    f_X6_perform_L182 m_allRows m_allColumns m_latest m_streamLong m_stream  v1 z_m_rows z_m_columns z_m_cells m_cursor_25 false z_m_alarms z_m_rejects z_m_at z_m_place z_m_orders z_m_broken z_m_signBefore z_m_free m_waitsLong_25 m_screen_25 z_m_waits)
    else
    if (b2i v3) = 0 then
    thn (f_X6_rejected z_m_broken) (fun m_broken_17 =>
    f_X6_perform_L182 m_allRows m_allColumns m_latest m_streamLong m_stream  v1 z_m_rows z_m_columns z_m_cells z_m_cursor z_m_locked z_m_alarms z_m_rejects z_m_at z_m_place z_m_orders m_broken_17 z_m_signBefore z_m_free z_m_waitsLong z_m_screen z_m_waits)
    else
    if z_m_at = m_streamLong then
    if (b2i v1) = 0 then
    if v2 = 242 then
    Option.bind (f_X6_answer z_m_cells z_m_cursor z_m_waitsLong z_m_screen z_m_waits m_latest true) (fun (m_waitsLong_24, m_waits_24) =>
    f_X6_perform_L182 m_allRows m_allColumns m_latest m_streamLong m_stream  v1 z_m_rows z_m_columns z_m_cells z_m_cursor z_m_locked z_m_alarms z_m_rejects z_m_at z_m_place z_m_orders z_m_broken z_m_signBefore z_m_free m_waitsLong_24 z_m_screen m_waits_24)
    else
    Option.bind (f_X6_answer z_m_cells z_m_cursor z_m_waitsLong z_m_screen z_m_waits m_latest false) (fun (m_waitsLong_23, m_waits_23) =>
    f_X6_perform_L182 m_allRows m_allColumns m_latest m_streamLong m_stream  v1 z_m_rows z_m_columns z_m_cells z_m_cursor z_m_locked z_m_alarms z_m_rejects z_m_at z_m_place z_m_orders z_m_broken z_m_signBefore z_m_free m_waitsLong_23 z_m_screen m_waits_23)
    else
    thn (f_X6_rejected z_m_broken) (fun m_broken_21 =>
    f_X6_perform_L182 m_allRows m_allColumns m_latest m_streamLong m_stream  v1 z_m_rows z_m_columns z_m_cells z_m_cursor z_m_locked z_m_alarms z_m_rejects z_m_at z_m_place z_m_orders m_broken_21 z_m_signBefore z_m_free z_m_waitsLong z_m_screen z_m_waits)
    else
    thn (f_X6_rejected z_m_broken) (fun m_broken_19 =>
    f_X6_perform_L182 m_allRows m_allColumns m_latest m_streamLong m_stream  v1 z_m_rows z_m_columns z_m_cells z_m_cursor z_m_locked z_m_alarms z_m_rejects z_m_at z_m_place z_m_orders m_broken_19 z_m_signBefore z_m_free z_m_waitsLong z_m_screen z_m_waits)
def f_X6_perform_L56 (m_allRows : Int32) (m_allColumns : Int32) (m_latest : Int32) (m_streamLong : Int32) (m_stream : Nat → Int32) (v1 : Bool) (v2 : Int32) (z_m_rows : Int32) (z_m_columns : Int32) (z_m_cells : Int32) (z_m_cursor : Int32) (z_m_locked : Bool) (z_m_alarms : Int32) (z_m_rejects : Int32) (z_m_at : Int32) (z_m_place : Int32) (z_m_orders : Int32) (z_m_broken : Bool) (z_m_signBefore : Bool) (z_m_free : Bool) (z_m_waitsLong : Int32) (z_m_screen : Nat → Int32) (z_m_waits : Nat → Int32) : Option (Int32 × Int32 × Int32 × Int32 × Bool × Int32 × Int32 × Int32 × Int32 × Int32 × Bool × Bool × Bool × Int32 × (Nat → Int32) × (Nat → Int32)) :=
    if v2 = 245 then
    if v2 = 245 then
    Option.bind (f_X6_use m_allRows m_allColumns z_m_rows z_m_columns z_m_cells z_m_cursor z_m_screen true) (fun (m_rows_30, m_columns_30, m_cells_30, m_cursor_30, m_screen_30) =>
    f_X6_perform_L91 m_allRows m_allColumns m_latest m_streamLong m_stream  v1 v2 true m_rows_30 m_columns_30 m_cells_30 m_cursor_30 z_m_locked z_m_alarms z_m_rejects z_m_at z_m_place z_m_orders z_m_broken z_m_signBefore z_m_free z_m_waitsLong m_screen_30 z_m_waits)
    else
    Option.bind (f_X6_use m_allRows m_allColumns z_m_rows z_m_columns z_m_cells z_m_cursor z_m_screen false) (fun (m_rows_29, m_columns_29, m_cells_29, m_cursor_29, m_screen_29) =>
    f_X6_perform_L91 m_allRows m_allColumns m_latest m_streamLong m_stream  v1 v2 true m_rows_29 m_columns_29 m_cells_29 m_cursor_29 z_m_locked z_m_alarms z_m_rejects z_m_at z_m_place z_m_orders z_m_broken z_m_signBefore z_m_free z_m_waitsLong m_screen_29 z_m_waits)
    else
    if v2 = 126 then
    if v2 = 245 then
    Option.bind (f_X6_use m_allRows m_allColumns z_m_rows z_m_columns z_m_cells z_m_cursor z_m_screen true) (fun (m_rows_34, m_columns_34, m_cells_34, m_cursor_34, m_screen_34) =>
    f_X6_perform_L91 m_allRows m_allColumns m_latest m_streamLong m_stream  v1 v2 true m_rows_34 m_columns_34 m_cells_34 m_cursor_34 z_m_locked z_m_alarms z_m_rejects z_m_at z_m_place z_m_orders z_m_broken z_m_signBefore z_m_free z_m_waitsLong m_screen_34 z_m_waits)
    else
    Option.bind (f_X6_use m_allRows m_allColumns z_m_rows z_m_columns z_m_cells z_m_cursor z_m_screen false) (fun (m_rows_33, m_columns_33, m_cells_33, m_cursor_33, m_screen_33) =>
    f_X6_perform_L91 m_allRows m_allColumns m_latest m_streamLong m_stream  v1 v2 true m_rows_33 m_columns_33 m_cells_33 m_cursor_33 z_m_locked z_m_alarms z_m_rejects z_m_at z_m_place z_m_orders z_m_broken z_m_signBefore z_m_free z_m_waitsLong m_screen_33 z_m_waits)
    else
    f_X6_perform_L91 m_allRows m_allColumns m_latest m_streamLong m_stream  v1 v2 true z_m_rows z_m_columns z_m_cells z_m_cursor z_m_locked z_m_alarms z_m_rejects z_m_at z_m_place z_m_orders z_m_broken z_m_signBefore z_m_free z_m_waitsLong z_m_screen z_m_waits
def f_X6_perform_L35 (m_allRows : Int32) (m_allColumns : Int32) (m_latest : Int32) (m_streamLong : Int32) (m_stream : Nat → Int32) (v1 : Bool) (t0 : Int32) (z_m_rows : Int32) (z_m_columns : Int32) (z_m_cells : Int32) (z_m_cursor : Int32) (z_m_locked : Bool) (z_m_alarms : Int32) (z_m_rejects : Int32) (z_m_at : Int32) (z_m_place : Int32) (z_m_orders : Int32) (z_m_broken : Bool) (z_m_signBefore : Bool) (z_m_free : Bool) (z_m_waitsLong : Int32) (z_m_screen : Nat → Int32) (z_m_waits : Nat → Int32) : Option (Int32 × Int32 × Int32 × Int32 × Bool × Int32 × Int32 × Int32 × Int32 × Int32 × Bool × Bool × Bool × Int32 × (Nat → Int32) × (Nat → Int32)) :=
    if t0 = 242 then
    f_X6_perform_L56 m_allRows m_allColumns m_latest m_streamLong m_stream  v1 t0 z_m_rows z_m_columns z_m_cells z_m_cursor z_m_locked z_m_alarms z_m_rejects z_m_at z_m_place z_m_orders z_m_broken z_m_signBefore z_m_free z_m_waitsLong z_m_screen z_m_waits
    else
    if t0 = 246 then
    f_X6_perform_L56 m_allRows m_allColumns m_latest m_streamLong m_stream  v1 t0 z_m_rows z_m_columns z_m_cells z_m_cursor z_m_locked z_m_alarms z_m_rejects z_m_at z_m_place z_m_orders z_m_broken z_m_signBefore z_m_free z_m_waitsLong z_m_screen z_m_waits
    else
    if t0 = 110 then
    f_X6_perform_L56 m_allRows m_allColumns m_latest m_streamLong m_stream  v1 t0 z_m_rows z_m_columns z_m_cells z_m_cursor z_m_locked z_m_alarms z_m_rejects z_m_at z_m_place z_m_orders z_m_broken z_m_signBefore z_m_free z_m_waitsLong z_m_screen z_m_waits
    else
    if t0 = 245 then
    if t0 = 245 then
    Option.bind (f_X6_use m_allRows m_allColumns z_m_rows z_m_columns z_m_cells z_m_cursor z_m_screen true) (fun (m_rows_41, m_columns_41, m_cells_41, m_cursor_41, m_screen_41) =>
    f_X6_perform_L91 m_allRows m_allColumns m_latest m_streamLong m_stream  v1 t0 false m_rows_41 m_columns_41 m_cells_41 m_cursor_41 z_m_locked z_m_alarms z_m_rejects z_m_at z_m_place z_m_orders z_m_broken z_m_signBefore z_m_free z_m_waitsLong m_screen_41 z_m_waits)
    else
    Option.bind (f_X6_use m_allRows m_allColumns z_m_rows z_m_columns z_m_cells z_m_cursor z_m_screen false) (fun (m_rows_40, m_columns_40, m_cells_40, m_cursor_40, m_screen_40) =>
    f_X6_perform_L91 m_allRows m_allColumns m_latest m_streamLong m_stream  v1 t0 false m_rows_40 m_columns_40 m_cells_40 m_cursor_40 z_m_locked z_m_alarms z_m_rejects z_m_at z_m_place z_m_orders z_m_broken z_m_signBefore z_m_free z_m_waitsLong m_screen_40 z_m_waits)
    else
    if t0 = 126 then
    if t0 = 245 then
    Option.bind (f_X6_use m_allRows m_allColumns z_m_rows z_m_columns z_m_cells z_m_cursor z_m_screen true) (fun (m_rows_45, m_columns_45, m_cells_45, m_cursor_45, m_screen_45) =>
    f_X6_perform_L91 m_allRows m_allColumns m_latest m_streamLong m_stream  v1 t0 false m_rows_45 m_columns_45 m_cells_45 m_cursor_45 z_m_locked z_m_alarms z_m_rejects z_m_at z_m_place z_m_orders z_m_broken z_m_signBefore z_m_free z_m_waitsLong m_screen_45 z_m_waits)
    else
    Option.bind (f_X6_use m_allRows m_allColumns z_m_rows z_m_columns z_m_cells z_m_cursor z_m_screen false) (fun (m_rows_44, m_columns_44, m_cells_44, m_cursor_44, m_screen_44) =>
    f_X6_perform_L91 m_allRows m_allColumns m_latest m_streamLong m_stream  v1 t0 false m_rows_44 m_columns_44 m_cells_44 m_cursor_44 z_m_locked z_m_alarms z_m_rejects z_m_at z_m_place z_m_orders z_m_broken z_m_signBefore z_m_free z_m_waitsLong m_screen_44 z_m_waits)
    else
    f_X6_perform_L91 m_allRows m_allColumns m_latest m_streamLong m_stream  v1 t0 false z_m_rows z_m_columns z_m_cells z_m_cursor z_m_locked z_m_alarms z_m_rejects z_m_at z_m_place z_m_orders z_m_broken z_m_signBefore z_m_free z_m_waitsLong z_m_screen z_m_waits
def f_X6_perform (m_allRows : Int32) (m_allColumns : Int32) (m_rows : Int32) (m_columns : Int32) (m_cells : Int32) (m_cursor : Int32) (m_locked : Bool) (m_alarms : Int32) (m_rejects : Int32) (m_latest : Int32) (m_streamLong : Int32) (m_at : Int32) (m_place : Int32) (m_orders : Int32) (m_broken : Bool) (m_signBefore : Bool) (m_free : Bool) (m_waitsLong : Int32) (m_screen : Nat → Int32) (m_stream : Nat → Int32) (m_waits : Nat → Int32) (a1 : Bool) : Option (Int32 × Int32 × Int32 × Int32 × Bool × Int32 × Int32 × Int32 × Int32 × Int32 × Bool × Bool × Bool × Int32 × (Nat → Int32) × (Nat → Int32)) :=
    if m_streamLong = 0 then
    f_X6_perform_L35 m_allRows m_allColumns m_latest m_streamLong m_stream  a1 (-1) m_rows m_columns m_cells m_cursor m_locked m_alarms m_rejects 0 m_place 0 false m_signBefore false m_waitsLong m_screen m_waits
    else
    Option.bind (f_X6_take 0 m_stream) (fun (r_47, m_at_47) =>
    f_X6_perform_L35 m_allRows m_allColumns m_latest m_streamLong m_stream  a1 r_47 m_rows m_columns m_cells m_cursor m_locked m_alarms m_rejects m_at_47 m_place 0 false m_signBefore false m_waitsLong m_screen m_waits)
set_option maxHeartbeats 400000 in
set_option maxRecDepth 100000 in
theorem c_X6_perform (l : Launch) (dC : Nat → ClassId) (dI : Nat → Nat → Nat) (cI : ClassId) (hM hR hT hZ : Nat) (m_allRows : Int32) (m_allColumns : Int32) (m_rows : Int32) (m_columns : Int32) (m_cells : Int32) (m_cursor : Int32) (m_locked : Bool) (m_insert : Bool) (m_alarms : Int32) (m_rejects : Int32) (m_latest : Int32) (m_thrown : Int32) (m_streamLong : Int32) (m_at : Int32) (m_place : Int32) (m_orders : Int32) (m_escaped : Bool) (m_broken : Bool) (m_signBefore : Bool) (m_free : Bool) (m_waitsLong : Int32) (m_cutOff : Bool) (m_screen : Nat → Int32) (m_stream : Nat → Int32) (m_waits : Nat → Int32) (sz : Nat) (a1 : Bool) (res : Int32 × Int32 × Int32 × Int32 × Bool × Int32 × Int32 × Int32 × Int32 × Int32 × Bool × Bool × Bool × Int32 × (Nat → Int32) × (Nat → Int32)) (hf : f_X6_perform m_allRows m_allColumns m_rows m_columns m_cells m_cursor m_locked m_alarms m_rejects m_latest m_streamLong m_at m_place m_orders m_broken m_signBefore m_free m_waitsLong m_screen m_stream m_waits a1 = some res) : Met l yX6_perform wsX6_perform ({ frames := 8, cells := 0, slots := 0, locals := 178 }) (va_Pc [.ref hM, .int (b2i a1)] (my_Pre (dC, dI) [(cI, .int)] (wM hM hR hT hZ cI m_allRows m_allColumns m_rows m_columns m_cells m_cursor m_locked m_insert m_alarms m_rejects m_latest m_thrown m_streamLong m_at m_place m_orders m_escaped m_broken m_signBefore m_free m_waitsLong m_cutOff m_screen m_stream m_waits) sz)) (my_Qv (S := Unit) (dC, dI) [(cI, .int)] (fun _ => wM hM hR hT hZ cI m_allRows m_allColumns res.1 res.2.1 res.2.2.1 res.2.2.2.1 res.2.2.2.2.1 m_insert res.2.2.2.2.2.1 res.2.2.2.2.2.2.1 m_latest m_thrown m_streamLong res.2.2.2.2.2.2.2.1 res.2.2.2.2.2.2.2.2.1 res.2.2.2.2.2.2.2.2.2.1 m_escaped res.2.2.2.2.2.2.2.2.2.2.1 res.2.2.2.2.2.2.2.2.2.2.2.1 res.2.2.2.2.2.2.2.2.2.2.2.2.1 res.2.2.2.2.2.2.2.2.2.2.2.2.2.1 m_cutOff res.2.2.2.2.2.2.2.2.2.2.2.2.2.2.1 m_stream res.2.2.2.2.2.2.2.2.2.2.2.2.2.2.2) (va_A (wM hM hR hT hZ cI m_allRows m_allColumns m_rows m_columns m_cells m_cursor m_locked m_insert m_alarms m_rejects m_latest m_thrown m_streamLong m_at m_place m_orders m_escaped m_broken m_signBefore m_free m_waitsLong m_cutOff m_screen m_stream m_waits) sz)) 0 0 (va_A (wM hM hR hT hZ cI m_allRows m_allColumns m_rows m_columns m_cells m_cursor m_locked m_insert m_alarms m_rejects m_latest m_thrown m_streamLong m_at m_place m_orders m_escaped m_broken m_signBefore m_free m_waitsLong m_cutOff m_screen m_stream m_waits) sz) := by
  refine my_enter (cc := cX6_perform) (maxL := 4) (ret := none) (Qc := my_Qv (S := Unit) (dC, dI) [(cI, .int)] (fun _ => wM hM hR hT hZ cI m_allRows m_allColumns res.1 res.2.1 res.2.2.1 res.2.2.2.1 res.2.2.2.2.1 m_insert res.2.2.2.2.2.1 res.2.2.2.2.2.2.1 m_latest m_thrown m_streamLong res.2.2.2.2.2.2.2.1 res.2.2.2.2.2.2.2.2.1 res.2.2.2.2.2.2.2.2.2.1 m_escaped res.2.2.2.2.2.2.2.2.2.2.1 res.2.2.2.2.2.2.2.2.2.2.2.1 res.2.2.2.2.2.2.2.2.2.2.2.2.1 res.2.2.2.2.2.2.2.2.2.2.2.2.2.1 m_cutOff res.2.2.2.2.2.2.2.2.2.2.2.2.2.2.1 m_stream res.2.2.2.2.2.2.2.2.2.2.2.2.2.2.2)) (by decide) rfl (Nat.le_of_ble_eq_true rfl) ?_
  intro p e s m below meth c A ls hx hb hr hml hts hown hlocks hnm hP hK hD hA hS hl
  have hown : s.vm.findClass RX6 = some m.cls := hown
  have hl : lv_has ls 4 [(0, .ref hM), (1, .int (b2i a1))] := hl
  have L204 : ∀ (v1 : Bool) (z_m_rows : Int32) (z_m_columns : Int32) (z_m_cells : Int32) (z_m_cursor : Int32) (z_m_locked : Bool) (z_m_alarms : Int32) (z_m_rejects : Int32) (z_m_at : Int32) (z_m_place : Int32) (z_m_orders : Int32) (z_m_broken : Bool) (z_m_signBefore : Bool) (z_m_free : Bool) (z_m_waitsLong : Int32) (z_m_screen : Nat → Int32) (z_m_waits : Nat → Int32) (H : Heap) (locs : List Loc), f_X6_perform_L204 m_allRows m_allColumns m_latest m_streamLong m_stream v1 z_m_rows z_m_columns z_m_cells z_m_cursor z_m_locked z_m_alarms z_m_rejects z_m_at z_m_place z_m_orders z_m_broken z_m_signBefore z_m_free z_m_waitsLong z_m_screen z_m_waits = some res → va_P (dC, dI) vwCl (wM hM hR hT hZ cI m_allRows m_allColumns z_m_rows z_m_columns z_m_cells z_m_cursor z_m_locked m_insert z_m_alarms z_m_rejects m_latest m_thrown m_streamLong z_m_at z_m_place z_m_orders m_escaped z_m_broken z_m_signBefore z_m_free z_m_waitsLong m_cutOff z_m_screen m_stream z_m_waits) H → va_D A (wM hM hR hT hZ cI m_allRows m_allColumns z_m_rows z_m_columns z_m_cells z_m_cursor z_m_locked m_insert z_m_alarms z_m_rejects m_latest m_thrown m_streamLong z_m_at z_m_place z_m_orders m_escaped z_m_broken z_m_signBefore z_m_free z_m_waitsLong m_cutOff z_m_screen m_stream z_m_waits) → va_S A s.heap H locs → ∀ (ls : Array Slot), lv_has ls 4 [(0, .ref hM), (1, .int (b2i v1))] → W p l e (headSpec wsX6_perform ({ frames := 8, cells := 0, slots := 0, locals := 178 })).room s m ([.ref hM, .int (b2i a1)] : List Value).toArray below meth c H locs 0 0 (MQ below (my_Qv (S := Unit) (dC, dI) [(cI, .int)] (fun _ => wM hM hR hT hZ cI m_allRows m_allColumns res.1 res.2.1 res.2.2.1 res.2.2.2.1 res.2.2.2.2.1 m_insert res.2.2.2.2.2.1 res.2.2.2.2.2.2.1 m_latest m_thrown m_streamLong res.2.2.2.2.2.2.2.1 res.2.2.2.2.2.2.2.2.1 res.2.2.2.2.2.2.2.2.2.1 m_escaped res.2.2.2.2.2.2.2.2.2.2.1 res.2.2.2.2.2.2.2.2.2.2.2.1 res.2.2.2.2.2.2.2.2.2.2.2.2.1 res.2.2.2.2.2.2.2.2.2.2.2.2.2.1 m_cutOff res.2.2.2.2.2.2.2.2.2.2.2.2.2.2.1 m_stream res.2.2.2.2.2.2.2.2.2.2.2.2.2.2.2) A) ([.ref hM, .int (b2i a1)] : List Value).toArray s 0 0 A) (F0 m 204 ls []) := by
    intro v1 z_m_rows z_m_columns z_m_cells z_m_cursor z_m_locked z_m_alarms z_m_rejects z_m_at z_m_place z_m_orders z_m_broken z_m_signBefore z_m_free z_m_waitsLong z_m_screen z_m_waits H locs hf  hP hD hS ls hl
    unfold f_X6_perform_L204 at hf
    refine lv_iload_n hx hb dX6_perform_204 rfl (lv_at hl 1 rfl) ?_
    refine lv_if_eq (tgt := 213) hx hb dX6_perform_205 (by decide) (fun c_1 => ?_) (fun c_1 => ?_)
    · have hf := (if_pos c_1).symm.trans hf
      refine lv_aload_n hx hb dX6_perform_213 rfl (lv_at hl 0 rfl) ?_
      refine va_get (D := (dC, dI)) (ci := 7) (v := .int (b2i z_m_broken)) (C := RX6) (T := TX6) (N := 25) hx hb hts uu_X6_perform_X6 hown hK hP 0 rfl rfl 19 (by decide) (hts (.fieldLink RX6 73 "BlockScreenModel" "broken" "Z") (List.mem_of_getElem? (i := 3) rfl)) (fun _ h9 => h9) rfl dX6_perform_214 ?_
      refine lv_if_eq (tgt := 237) hx hb dX6_perform_217 (by decide) (fun c_2 => ?_) (fun c_2 => ?_)
      · have hf := (if_pos c_2).symm.trans hf
        refine lv_aload_n hx hb dX6_perform_237 rfl (lv_at hl 0 rfl) ?_
        refine va_get (D := (dC, dI)) (ci := 7) (v := .int (b2i z_m_free)) (C := RX6) (T := TX6) (N := 25) hx hb hts uu_X6_perform_X6 hown hK hP 0 rfl rfl 21 (by decide) (hts (.fieldLink RX6 128 "BlockScreenModel" "free" "Z") (List.mem_of_getElem? (i := 4) rfl)) (fun _ h9 => h9) rfl dX6_perform_238 ?_
        refine lv_if_eq (tgt := 254) hx hb dX6_perform_241 (by decide) (fun c_3 => ?_) (fun c_3 => ?_)
        · have hf := (if_pos c_3).symm.trans hf
          have hf := Option.some.inj hf
          subst hf
          exact my_retv () hx hb hr hlocks hK hP hD hS dX6_perform_254
        · have hf := (if_neg c_3).symm.trans hf
          refine lv_aload_n hx hb dX6_perform_244 rfl (lv_at hl 0 rfl) ?_
          refine lv_iconst (v := 0) hx hb dX6_perform_245 (by decide) ?_
          refine va_put (D := (dC, dI)) (ci := 7) (v := .int 0) (C := RX6) (T := TX6) (N := 25) hx hb hts uu_X6_perform_X6 tyX6 tyX6_ok nmX6 hown hK hP hD hS 0 rfl rfl 7 (by decide) (hts (.fieldLink RX6 13 "BlockScreenModel" "locked" "Z") (List.mem_of_getElem? (i := 6) rfl)) (fun _ h9 => h9) rfl (tyX6_ok 7 (by decide)) rfl rfl (Nat.le_of_ble_eq_true rfl) dX6_perform_246 (fun H locs hP hD hS => ?_)
          have hP : va_P (dC, dI) vwCl (wM hM hR hT hZ cI m_allRows m_allColumns z_m_rows z_m_columns z_m_cells z_m_cursor false m_insert z_m_alarms z_m_rejects m_latest m_thrown m_streamLong z_m_at z_m_place z_m_orders m_escaped z_m_broken z_m_signBefore z_m_free z_m_waitsLong m_cutOff z_m_screen m_stream z_m_waits) H := hP
          have hD : va_D A (wM hM hR hT hZ cI m_allRows m_allColumns z_m_rows z_m_columns z_m_cells z_m_cursor false m_insert z_m_alarms z_m_rejects m_latest m_thrown m_streamLong z_m_at z_m_place z_m_orders m_escaped z_m_broken z_m_signBefore z_m_free z_m_waitsLong m_cutOff z_m_screen m_stream z_m_waits) := hD
          refine lv_aload_n hx hb dX6_perform_249 rfl (lv_at hl 0 rfl) ?_
          refine lv_iconst (v := 0) hx hb dX6_perform_250 (by decide) ?_
          refine va_put (D := (dC, dI)) (ci := 7) (v := .int 0) (C := RX6) (T := TX6) (N := 25) hx hb hts uu_X6_perform_X6 tyX6 tyX6_ok nmX6 hown hK hP hD hS 0 rfl rfl 23 (by decide) (hts (.fieldLink RX6 137 "BlockScreenModel" "waitsLong" "I") (List.mem_of_getElem? (i := 9) rfl)) (fun _ h9 => h9) rfl (tyX6_ok 23 (by decide)) rfl rfl (Nat.le_of_ble_eq_true rfl) dX6_perform_251 (fun H locs hP hD hS => ?_)
          have hP : va_P (dC, dI) vwCl (wM hM hR hT hZ cI m_allRows m_allColumns z_m_rows z_m_columns z_m_cells z_m_cursor false m_insert z_m_alarms z_m_rejects m_latest m_thrown m_streamLong z_m_at z_m_place z_m_orders m_escaped z_m_broken z_m_signBefore z_m_free 0 m_cutOff z_m_screen m_stream z_m_waits) H := hP
          have hD : va_D A (wM hM hR hT hZ cI m_allRows m_allColumns z_m_rows z_m_columns z_m_cells z_m_cursor false m_insert z_m_alarms z_m_rejects m_latest m_thrown m_streamLong z_m_at z_m_place z_m_orders m_escaped z_m_broken z_m_signBefore z_m_free 0 m_cutOff z_m_screen m_stream z_m_waits) := hD
          have hf := Option.some.inj hf
          subst hf
          exact my_retv () hx hb hr hlocks hK hP hD hS dX6_perform_254
      · have hf := (if_neg c_2).symm.trans hf
        refine lv_aload_n hx hb dX6_perform_220 rfl (lv_at hl 0 rfl) ?_
        refine lv_dup hx hb dX6_perform_221 rfl ?_
        refine va_get (D := (dC, dI)) (ci := 7) (v := .int z_m_rejects) (C := RX6) (T := TX6) (N := 25) hx hb hts uu_X6_perform_X6 hown hK hP 0 rfl rfl 10 (by decide) (hts (.fieldLink RX6 150 "BlockScreenModel" "rejects" "I") (List.mem_of_getElem? (i := 8) rfl)) (fun _ h9 => h9) rfl dX6_perform_222 ?_
        refine lv_iconst (v := 1) hx hb dX6_perform_225 (by decide) ?_
        refine lv_iadd hx hb dX6_perform_226 ?_
        refine va_put (D := (dC, dI)) (ci := 7) (v := .int (z_m_rejects + 1)) (C := RX6) (T := TX6) (N := 25) hx hb hts uu_X6_perform_X6 tyX6 tyX6_ok nmX6 hown hK hP hD hS 0 rfl rfl 10 (by decide) (hts (.fieldLink RX6 150 "BlockScreenModel" "rejects" "I") (List.mem_of_getElem? (i := 8) rfl)) (fun _ h9 => h9) rfl (tyX6_ok 10 (by decide)) rfl rfl (Nat.le_of_ble_eq_true rfl) dX6_perform_227 (fun H locs hP hD hS => ?_)
        have hP : va_P (dC, dI) vwCl (wM hM hR hT hZ cI m_allRows m_allColumns z_m_rows z_m_columns z_m_cells z_m_cursor z_m_locked m_insert z_m_alarms (z_m_rejects + 1) m_latest m_thrown m_streamLong z_m_at z_m_place z_m_orders m_escaped z_m_broken z_m_signBefore z_m_free z_m_waitsLong m_cutOff z_m_screen m_stream z_m_waits) H := hP
        have hD : va_D A (wM hM hR hT hZ cI m_allRows m_allColumns z_m_rows z_m_columns z_m_cells z_m_cursor z_m_locked m_insert z_m_alarms (z_m_rejects + 1) m_latest m_thrown m_streamLong z_m_at z_m_place z_m_orders m_escaped z_m_broken z_m_signBefore z_m_free z_m_waitsLong m_cutOff z_m_screen m_stream z_m_waits) := hD
        refine lv_aload_n hx hb dX6_perform_230 rfl (lv_at hl 0 rfl) ?_
        obtain ⟨m_locked_4, hq_4, hf⟩ := th_inv hf
        refine my_cVv (As := []) (rest := []) ⟨hx, hb, hml, hown, hts⟩ (c_X6_lock l dC dI cI hM hR hT hZ m_allRows m_allColumns z_m_rows z_m_columns z_m_cells z_m_cursor z_m_locked m_insert z_m_alarms (z_m_rejects + 1) m_latest m_thrown m_streamLong z_m_at z_m_place z_m_orders m_escaped z_m_broken z_m_signBefore z_m_free z_m_waitsLong m_cutOff z_m_screen m_stream z_m_waits _  m_locked_4 hq_4) (cwV 0 hts gX6_perform_X6_lock rfl rfl rfl (by decide +kernel) ⟨Nat.le_of_ble_eq_true rfl, Nat.le_of_ble_eq_true rfl⟩) hK hP hD hS hA 0 7 rfl rfl rfl hl.1 rfl (Nat.le_of_ble_eq_true rfl) dX6_perform_231 ⟨Nat.zero_le _, Nat.zero_le _⟩ (fun _ H locs hP hD hS => ?_)
        have hP : va_P (dC, dI) vwCl (wM hM hR hT hZ cI m_allRows m_allColumns z_m_rows z_m_columns z_m_cells z_m_cursor m_locked_4 m_insert z_m_alarms (z_m_rejects + 1) m_latest m_thrown m_streamLong z_m_at z_m_place z_m_orders m_escaped z_m_broken z_m_signBefore z_m_free z_m_waitsLong m_cutOff z_m_screen m_stream z_m_waits) H := hP
        have hD : va_D A (wM hM hR hT hZ cI m_allRows m_allColumns z_m_rows z_m_columns z_m_cells z_m_cursor m_locked_4 m_insert z_m_alarms (z_m_rejects + 1) m_latest m_thrown m_streamLong z_m_at z_m_place z_m_orders m_escaped z_m_broken z_m_signBefore z_m_free z_m_waitsLong m_cutOff z_m_screen m_stream z_m_waits) := hD
        refine lv_goto (tgt := 254) hx hb dX6_perform_234 (by decide) ?_
        have hf := Option.some.inj hf
        subst hf
        exact my_retv () hx hb hr hlocks hK hP hD hS dX6_perform_254
    · have hf := (if_neg c_1).symm.trans hf
      refine lv_aload_n hx hb dX6_perform_208 rfl (lv_at hl 0 rfl) ?_
      refine lv_iconst (v := 1) hx hb dX6_perform_209 (by decide) ?_
      refine va_put (D := (dC, dI)) (ci := 7) (v := .int 1) (C := RX6) (T := TX6) (N := 25) hx hb hts uu_X6_perform_X6 tyX6 tyX6_ok nmX6 hown hK hP hD hS 0 rfl rfl 19 (by decide) (hts (.fieldLink RX6 73 "BlockScreenModel" "broken" "Z") (List.mem_of_getElem? (i := 3) rfl)) (fun _ h9 => h9) rfl (tyX6_ok 19 (by decide)) rfl rfl (Nat.le_of_ble_eq_true rfl) dX6_perform_210 (fun H locs hP hD hS => ?_)
      have hP : va_P (dC, dI) vwCl (wM hM hR hT hZ cI m_allRows m_allColumns z_m_rows z_m_columns z_m_cells z_m_cursor z_m_locked m_insert z_m_alarms z_m_rejects m_latest m_thrown m_streamLong z_m_at z_m_place z_m_orders m_escaped true z_m_signBefore z_m_free z_m_waitsLong m_cutOff z_m_screen m_stream z_m_waits) H := hP
      have hD : va_D A (wM hM hR hT hZ cI m_allRows m_allColumns z_m_rows z_m_columns z_m_cells z_m_cursor z_m_locked m_insert z_m_alarms z_m_rejects m_latest m_thrown m_streamLong z_m_at z_m_place z_m_orders m_escaped true z_m_signBefore z_m_free z_m_waitsLong m_cutOff z_m_screen m_stream z_m_waits) := hD
      refine lv_aload_n hx hb dX6_perform_213 rfl (lv_at hl 0 rfl) ?_
      refine va_get (D := (dC, dI)) (ci := 7) (v := .int 1) (C := RX6) (T := TX6) (N := 25) hx hb hts uu_X6_perform_X6 hown hK hP 0 rfl rfl 19 (by decide) (hts (.fieldLink RX6 73 "BlockScreenModel" "broken" "Z") (List.mem_of_getElem? (i := 3) rfl)) (fun _ h9 => h9) rfl dX6_perform_214 ?_
      refine lv_if_eq (tgt := 237) hx hb dX6_perform_217 (by decide) (fun c_5 => ?_) (fun c_5 => ?_)
      · exact absurd c_5 (by decide)
      · refine lv_aload_n hx hb dX6_perform_220 rfl (lv_at hl 0 rfl) ?_
        refine lv_dup hx hb dX6_perform_221 rfl ?_
        refine va_get (D := (dC, dI)) (ci := 7) (v := .int z_m_rejects) (C := RX6) (T := TX6) (N := 25) hx hb hts uu_X6_perform_X6 hown hK hP 0 rfl rfl 10 (by decide) (hts (.fieldLink RX6 150 "BlockScreenModel" "rejects" "I") (List.mem_of_getElem? (i := 8) rfl)) (fun _ h9 => h9) rfl dX6_perform_222 ?_
        refine lv_iconst (v := 1) hx hb dX6_perform_225 (by decide) ?_
        refine lv_iadd hx hb dX6_perform_226 ?_
        refine va_put (D := (dC, dI)) (ci := 7) (v := .int (z_m_rejects + 1)) (C := RX6) (T := TX6) (N := 25) hx hb hts uu_X6_perform_X6 tyX6 tyX6_ok nmX6 hown hK hP hD hS 0 rfl rfl 10 (by decide) (hts (.fieldLink RX6 150 "BlockScreenModel" "rejects" "I") (List.mem_of_getElem? (i := 8) rfl)) (fun _ h9 => h9) rfl (tyX6_ok 10 (by decide)) rfl rfl (Nat.le_of_ble_eq_true rfl) dX6_perform_227 (fun H locs hP hD hS => ?_)
        have hP : va_P (dC, dI) vwCl (wM hM hR hT hZ cI m_allRows m_allColumns z_m_rows z_m_columns z_m_cells z_m_cursor z_m_locked m_insert z_m_alarms (z_m_rejects + 1) m_latest m_thrown m_streamLong z_m_at z_m_place z_m_orders m_escaped true z_m_signBefore z_m_free z_m_waitsLong m_cutOff z_m_screen m_stream z_m_waits) H := hP
        have hD : va_D A (wM hM hR hT hZ cI m_allRows m_allColumns z_m_rows z_m_columns z_m_cells z_m_cursor z_m_locked m_insert z_m_alarms (z_m_rejects + 1) m_latest m_thrown m_streamLong z_m_at z_m_place z_m_orders m_escaped true z_m_signBefore z_m_free z_m_waitsLong m_cutOff z_m_screen m_stream z_m_waits) := hD
        refine lv_aload_n hx hb dX6_perform_230 rfl (lv_at hl 0 rfl) ?_
        obtain ⟨m_locked_6, hq_6, hf⟩ := th_inv hf
        refine my_cVv (As := []) (rest := []) ⟨hx, hb, hml, hown, hts⟩ (c_X6_lock l dC dI cI hM hR hT hZ m_allRows m_allColumns z_m_rows z_m_columns z_m_cells z_m_cursor z_m_locked m_insert z_m_alarms (z_m_rejects + 1) m_latest m_thrown m_streamLong z_m_at z_m_place z_m_orders m_escaped true z_m_signBefore z_m_free z_m_waitsLong m_cutOff z_m_screen m_stream z_m_waits _  m_locked_6 hq_6) (cwV 0 hts gX6_perform_X6_lock rfl rfl rfl (by decide +kernel) ⟨Nat.le_of_ble_eq_true rfl, Nat.le_of_ble_eq_true rfl⟩) hK hP hD hS hA 0 7 rfl rfl rfl hl.1 rfl (Nat.le_of_ble_eq_true rfl) dX6_perform_231 ⟨Nat.zero_le _, Nat.zero_le _⟩ (fun _ H locs hP hD hS => ?_)
        have hP : va_P (dC, dI) vwCl (wM hM hR hT hZ cI m_allRows m_allColumns z_m_rows z_m_columns z_m_cells z_m_cursor m_locked_6 m_insert z_m_alarms (z_m_rejects + 1) m_latest m_thrown m_streamLong z_m_at z_m_place z_m_orders m_escaped true z_m_signBefore z_m_free z_m_waitsLong m_cutOff z_m_screen m_stream z_m_waits) H := hP
        have hD : va_D A (wM hM hR hT hZ cI m_allRows m_allColumns z_m_rows z_m_columns z_m_cells z_m_cursor m_locked_6 m_insert z_m_alarms (z_m_rejects + 1) m_latest m_thrown m_streamLong z_m_at z_m_place z_m_orders m_escaped true z_m_signBefore z_m_free z_m_waitsLong m_cutOff z_m_screen m_stream z_m_waits) := hD
        refine lv_goto (tgt := 254) hx hb dX6_perform_234 (by decide) ?_
        have hf := Option.some.inj hf
        subst hf
        exact my_retv () hx hb hr hlocks hK hP hD hS dX6_perform_254
  have L182 : ∀ (v1 : Bool) (z_m_rows : Int32) (z_m_columns : Int32) (z_m_cells : Int32) (z_m_cursor : Int32) (z_m_locked : Bool) (z_m_alarms : Int32) (z_m_rejects : Int32) (z_m_at : Int32) (z_m_place : Int32) (z_m_orders : Int32) (z_m_broken : Bool) (z_m_signBefore : Bool) (z_m_free : Bool) (z_m_waitsLong : Int32) (z_m_screen : Nat → Int32) (z_m_waits : Nat → Int32) (H : Heap) (locs : List Loc), f_X6_perform_L182 m_allRows m_allColumns m_latest m_streamLong m_stream v1 z_m_rows z_m_columns z_m_cells z_m_cursor z_m_locked z_m_alarms z_m_rejects z_m_at z_m_place z_m_orders z_m_broken z_m_signBefore z_m_free z_m_waitsLong z_m_screen z_m_waits = some res → va_P (dC, dI) vwCl (wM hM hR hT hZ cI m_allRows m_allColumns z_m_rows z_m_columns z_m_cells z_m_cursor z_m_locked m_insert z_m_alarms z_m_rejects m_latest m_thrown m_streamLong z_m_at z_m_place z_m_orders m_escaped z_m_broken z_m_signBefore z_m_free z_m_waitsLong m_cutOff z_m_screen m_stream z_m_waits) H → va_D A (wM hM hR hT hZ cI m_allRows m_allColumns z_m_rows z_m_columns z_m_cells z_m_cursor z_m_locked m_insert z_m_alarms z_m_rejects m_latest m_thrown m_streamLong z_m_at z_m_place z_m_orders m_escaped z_m_broken z_m_signBefore z_m_free z_m_waitsLong m_cutOff z_m_screen m_stream z_m_waits) → va_S A s.heap H locs → ∀ (ls : Array Slot), lv_has ls 4 [(0, .ref hM), (1, .int (b2i v1))] → W p l e (headSpec wsX6_perform ({ frames := 8, cells := 0, slots := 0, locals := 178 })).room s m ([.ref hM, .int (b2i a1)] : List Value).toArray below meth c H locs 0 0 (MQ below (my_Qv (S := Unit) (dC, dI) [(cI, .int)] (fun _ => wM hM hR hT hZ cI m_allRows m_allColumns res.1 res.2.1 res.2.2.1 res.2.2.2.1 res.2.2.2.2.1 m_insert res.2.2.2.2.2.1 res.2.2.2.2.2.2.1 m_latest m_thrown m_streamLong res.2.2.2.2.2.2.2.1 res.2.2.2.2.2.2.2.2.1 res.2.2.2.2.2.2.2.2.2.1 m_escaped res.2.2.2.2.2.2.2.2.2.2.1 res.2.2.2.2.2.2.2.2.2.2.2.1 res.2.2.2.2.2.2.2.2.2.2.2.2.1 res.2.2.2.2.2.2.2.2.2.2.2.2.2.1 m_cutOff res.2.2.2.2.2.2.2.2.2.2.2.2.2.2.1 m_stream res.2.2.2.2.2.2.2.2.2.2.2.2.2.2.2) A) ([.ref hM, .int (b2i a1)] : List Value).toArray s 0 0 A) (F0 m 182 ls []) := by
    intro v1 z_m_rows z_m_columns z_m_cells z_m_cursor z_m_locked z_m_alarms z_m_rejects z_m_at z_m_place z_m_orders z_m_broken z_m_signBefore z_m_free z_m_waitsLong z_m_screen z_m_waits H locs hf  hP hD hS ls hl
    unfold f_X6_perform_L182 at hf
    refine lv_aload_n hx hb dX6_perform_182 rfl (lv_at hl 0 rfl) ?_
    refine va_get (D := (dC, dI)) (ci := 7) (v := .int (b2i z_m_broken)) (C := RX6) (T := TX6) (N := 25) hx hb hts uu_X6_perform_X6 hown hK hP 0 rfl rfl 19 (by decide) (hts (.fieldLink RX6 73 "BlockScreenModel" "broken" "Z") (List.mem_of_getElem? (i := 3) rfl)) (fun _ h9 => h9) rfl dX6_perform_183 ?_
    refine lv_if_ne (tgt := 204) hx hb dX6_perform_186 (by decide) (fun c_7 => ?_) (fun c_7 => ?_)
    · have hf := (if_neg c_7).symm.trans hf
      exact L204  v1 z_m_rows z_m_columns z_m_cells z_m_cursor z_m_locked z_m_alarms z_m_rejects z_m_at z_m_place z_m_orders z_m_broken z_m_signBefore z_m_free z_m_waitsLong z_m_screen z_m_waits _ _ hf  hP hD hS ls (lv_sub hl [0, 1] rfl)
    · have hf := (if_pos c_7).symm.trans hf
      refine lv_aload_n hx hb dX6_perform_189 rfl (lv_at hl 0 rfl) ?_
      refine va_get (D := (dC, dI)) (ci := 7) (v := .int z_m_at) (C := RX6) (T := TX6) (N := 25) hx hb hts uu_X6_perform_X6 hown hK hP 0 rfl rfl 15 (by decide) (hts (.fieldLink RX6 76 "BlockScreenModel" "at" "I") (List.mem_of_getElem? (i := 1) rfl)) (fun _ h9 => h9) rfl dX6_perform_190 ?_
      refine lv_aload_n hx hb dX6_perform_193 rfl (lv_at hl 0 rfl) ?_
      refine va_get (D := (dC, dI)) (ci := 7) (v := .int m_streamLong) (C := RX6) (T := TX6) (N := 25) hx hb hts uu_X6_perform_X6 hown hK hP 0 rfl rfl 14 (by decide) (hts (.fieldLink RX6 79 "BlockScreenModel" "streamLong" "I") (List.mem_of_getElem? (i := 5) rfl)) (fun _ h9 => h9) rfl dX6_perform_194 ?_
      refine lv_icmp_ge (tgt := 204) hx hb dX6_perform_197 (by decide) (fun c_8 => ?_) (fun c_8 => ?_)
      · have hf := (if_pos c_8).symm.trans hf
        exact L204  v1 z_m_rows z_m_columns z_m_cells z_m_cursor z_m_locked z_m_alarms z_m_rejects z_m_at z_m_place z_m_orders z_m_broken z_m_signBefore z_m_free z_m_waitsLong z_m_screen z_m_waits _ _ hf  hP hD hS ls (lv_sub hl [0, 1] rfl)
      · have hf := (if_neg c_8).symm.trans hf
        refine lv_aload_n hx hb dX6_perform_200 rfl (lv_at hl 0 rfl) ?_
        obtain ⟨m_broken_9, hq_9, hf⟩ := th_inv hf
        refine my_cVv (As := []) (rest := []) ⟨hx, hb, hml, hown, hts⟩ (c_X6_rejected l dC dI cI hM hR hT hZ m_allRows m_allColumns z_m_rows z_m_columns z_m_cells z_m_cursor z_m_locked m_insert z_m_alarms z_m_rejects m_latest m_thrown m_streamLong z_m_at z_m_place z_m_orders m_escaped z_m_broken z_m_signBefore z_m_free z_m_waitsLong m_cutOff z_m_screen m_stream z_m_waits _  m_broken_9 hq_9) (cwV 0 hts gX6_perform_X6_rejected rfl rfl rfl (by decide +kernel) ⟨Nat.le_of_ble_eq_true rfl, Nat.le_of_ble_eq_true rfl⟩) hK hP hD hS hA 0 7 rfl rfl rfl hl.1 rfl (Nat.le_of_ble_eq_true rfl) dX6_perform_201 ⟨Nat.zero_le _, Nat.zero_le _⟩ (fun _ H locs hP hD hS => ?_)
        have hP : va_P (dC, dI) vwCl (wM hM hR hT hZ cI m_allRows m_allColumns z_m_rows z_m_columns z_m_cells z_m_cursor z_m_locked m_insert z_m_alarms z_m_rejects m_latest m_thrown m_streamLong z_m_at z_m_place z_m_orders m_escaped m_broken_9 z_m_signBefore z_m_free z_m_waitsLong m_cutOff z_m_screen m_stream z_m_waits) H := hP
        have hD : va_D A (wM hM hR hT hZ cI m_allRows m_allColumns z_m_rows z_m_columns z_m_cells z_m_cursor z_m_locked m_insert z_m_alarms z_m_rejects m_latest m_thrown m_streamLong z_m_at z_m_place z_m_orders m_escaped m_broken_9 z_m_signBefore z_m_free z_m_waitsLong m_cutOff z_m_screen m_stream z_m_waits) := hD
        exact L204  v1 z_m_rows z_m_columns z_m_cells z_m_cursor z_m_locked z_m_alarms z_m_rejects z_m_at z_m_place z_m_orders m_broken_9 z_m_signBefore z_m_free z_m_waitsLong z_m_screen z_m_waits _ _ hf  hP hD hS ls (lv_sub hl [0, 1] rfl)
  have L91 : ∀ (v1 : Bool) (v2 : Int32) (v3 : Bool) (z_m_rows : Int32) (z_m_columns : Int32) (z_m_cells : Int32) (z_m_cursor : Int32) (z_m_locked : Bool) (z_m_alarms : Int32) (z_m_rejects : Int32) (z_m_at : Int32) (z_m_place : Int32) (z_m_orders : Int32) (z_m_broken : Bool) (z_m_signBefore : Bool) (z_m_free : Bool) (z_m_waitsLong : Int32) (z_m_screen : Nat → Int32) (z_m_waits : Nat → Int32) (H : Heap) (locs : List Loc), f_X6_perform_L91 m_allRows m_allColumns m_latest m_streamLong m_stream v1 v2 v3 z_m_rows z_m_columns z_m_cells z_m_cursor z_m_locked z_m_alarms z_m_rejects z_m_at z_m_place z_m_orders z_m_broken z_m_signBefore z_m_free z_m_waitsLong z_m_screen z_m_waits = some res → va_P (dC, dI) vwCl (wM hM hR hT hZ cI m_allRows m_allColumns z_m_rows z_m_columns z_m_cells z_m_cursor z_m_locked m_insert z_m_alarms z_m_rejects m_latest m_thrown m_streamLong z_m_at z_m_place z_m_orders m_escaped z_m_broken z_m_signBefore z_m_free z_m_waitsLong m_cutOff z_m_screen m_stream z_m_waits) H → va_D A (wM hM hR hT hZ cI m_allRows m_allColumns z_m_rows z_m_columns z_m_cells z_m_cursor z_m_locked m_insert z_m_alarms z_m_rejects m_latest m_thrown m_streamLong z_m_at z_m_place z_m_orders m_escaped z_m_broken z_m_signBefore z_m_free z_m_waitsLong m_cutOff z_m_screen m_stream z_m_waits) → va_S A s.heap H locs → ∀ (ls : Array Slot), lv_has ls 4 [(0, .ref hM), (1, .int (b2i v1)), (2, .int v2), (3, .int (b2i v3))] → W p l e (headSpec wsX6_perform ({ frames := 8, cells := 0, slots := 0, locals := 178 })).room s m ([.ref hM, .int (b2i a1)] : List Value).toArray below meth c H locs 0 0 (MQ below (my_Qv (S := Unit) (dC, dI) [(cI, .int)] (fun _ => wM hM hR hT hZ cI m_allRows m_allColumns res.1 res.2.1 res.2.2.1 res.2.2.2.1 res.2.2.2.2.1 m_insert res.2.2.2.2.2.1 res.2.2.2.2.2.2.1 m_latest m_thrown m_streamLong res.2.2.2.2.2.2.2.1 res.2.2.2.2.2.2.2.2.1 res.2.2.2.2.2.2.2.2.2.1 m_escaped res.2.2.2.2.2.2.2.2.2.2.1 res.2.2.2.2.2.2.2.2.2.2.2.1 res.2.2.2.2.2.2.2.2.2.2.2.2.1 res.2.2.2.2.2.2.2.2.2.2.2.2.2.1 m_cutOff res.2.2.2.2.2.2.2.2.2.2.2.2.2.2.1 m_stream res.2.2.2.2.2.2.2.2.2.2.2.2.2.2.2) A) ([.ref hM, .int (b2i a1)] : List Value).toArray s 0 0 A) (F0 m 91 ls []) := by
    intro v1 v2 v3 z_m_rows z_m_columns z_m_cells z_m_cursor z_m_locked z_m_alarms z_m_rejects z_m_at z_m_place z_m_orders z_m_broken z_m_signBefore z_m_free z_m_waitsLong z_m_screen z_m_waits H locs hf  hP hD hS ls hl
    unfold f_X6_perform_L91 at hf
    refine lv_iload_n hx hb dX6_perform_91 rfl (lv_at hl 2 rfl) ?_
    refine lv_sipush (v := 245) hx hb dX6_perform_92 (by decide) ?_
    refine lv_icmp_eq (tgt := 111) hx hb dX6_perform_95 (by decide) (fun c_10 => ?_) (fun c_10 => ?_)
    · have hf := (if_pos c_10).symm.trans hf
      refine lv_aload_n hx hb dX6_perform_111 rfl (lv_at hl 0 rfl) ?_
      obtain ⟨⟨m_cursor_11, m_alarms_11, m_at_11, m_place_11, m_orders_11, m_broken_11, m_signBefore_11, m_free_11, m_screen_11⟩, hq_11, hf⟩ := ob_inv hf
      refine my_cVv (As := []) (rest := []) ⟨hx, hb, hml, hown, hts⟩ (c_X6_write l dC dI cI hM hR hT hZ m_allRows m_allColumns z_m_rows z_m_columns z_m_cells z_m_cursor z_m_locked m_insert z_m_alarms z_m_rejects m_latest m_thrown m_streamLong z_m_at z_m_place z_m_orders m_escaped z_m_broken z_m_signBefore z_m_free z_m_waitsLong m_cutOff z_m_screen m_stream z_m_waits _  (m_cursor_11, m_alarms_11, m_at_11, m_place_11, m_orders_11, m_broken_11, m_signBefore_11, m_free_11, m_screen_11) hq_11) (cwV 0 hts gX6_perform_X6_write rfl rfl rfl (by decide +kernel) ⟨Nat.le_of_ble_eq_true rfl, Nat.le_of_ble_eq_true rfl⟩) hK hP hD hS hA 0 7 rfl rfl rfl hl.1 rfl (Nat.le_of_ble_eq_true rfl) dX6_perform_112 ⟨Nat.zero_le _, Nat.zero_le _⟩ (fun _ H locs hP hD hS => ?_)
      have hP : va_P (dC, dI) vwCl (wM hM hR hT hZ cI m_allRows m_allColumns z_m_rows z_m_columns z_m_cells m_cursor_11 z_m_locked m_insert m_alarms_11 z_m_rejects m_latest m_thrown m_streamLong m_at_11 m_place_11 m_orders_11 m_escaped m_broken_11 m_signBefore_11 m_free_11 z_m_waitsLong m_cutOff m_screen_11 m_stream z_m_waits) H := hP
      have hD : va_D A (wM hM hR hT hZ cI m_allRows m_allColumns z_m_rows z_m_columns z_m_cells m_cursor_11 z_m_locked m_insert m_alarms_11 z_m_rejects m_latest m_thrown m_streamLong m_at_11 m_place_11 m_orders_11 m_escaped m_broken_11 m_signBefore_11 m_free_11 z_m_waitsLong m_cutOff m_screen_11 m_stream z_m_waits) := hD
      refine lv_goto (tgt := 182) hx hb dX6_perform_115 (by decide) ?_
      exact L182  v1 z_m_rows z_m_columns z_m_cells m_cursor_11 z_m_locked m_alarms_11 z_m_rejects m_at_11 m_place_11 m_orders_11 m_broken_11 m_signBefore_11 m_free_11 z_m_waitsLong m_screen_11 z_m_waits _ _ hf  hP hD hS ls (lv_sub hl [0, 1] rfl)
    · have hf := (if_neg c_10).symm.trans hf
      refine lv_iload_n hx hb dX6_perform_98 rfl (lv_at hl 2 rfl) ?_
      refine lv_bipush (v := 126) hx hb dX6_perform_99 (by decide) ?_
      refine lv_icmp_eq (tgt := 111) hx hb dX6_perform_101 (by decide) (fun c_12 => ?_) (fun c_12 => ?_)
      · have hf := (if_pos c_12).symm.trans hf
        refine lv_aload_n hx hb dX6_perform_111 rfl (lv_at hl 0 rfl) ?_
        obtain ⟨⟨m_cursor_13, m_alarms_13, m_at_13, m_place_13, m_orders_13, m_broken_13, m_signBefore_13, m_free_13, m_screen_13⟩, hq_13, hf⟩ := ob_inv hf
        refine my_cVv (As := []) (rest := []) ⟨hx, hb, hml, hown, hts⟩ (c_X6_write l dC dI cI hM hR hT hZ m_allRows m_allColumns z_m_rows z_m_columns z_m_cells z_m_cursor z_m_locked m_insert z_m_alarms z_m_rejects m_latest m_thrown m_streamLong z_m_at z_m_place z_m_orders m_escaped z_m_broken z_m_signBefore z_m_free z_m_waitsLong m_cutOff z_m_screen m_stream z_m_waits _  (m_cursor_13, m_alarms_13, m_at_13, m_place_13, m_orders_13, m_broken_13, m_signBefore_13, m_free_13, m_screen_13) hq_13) (cwV 0 hts gX6_perform_X6_write rfl rfl rfl (by decide +kernel) ⟨Nat.le_of_ble_eq_true rfl, Nat.le_of_ble_eq_true rfl⟩) hK hP hD hS hA 0 7 rfl rfl rfl hl.1 rfl (Nat.le_of_ble_eq_true rfl) dX6_perform_112 ⟨Nat.zero_le _, Nat.zero_le _⟩ (fun _ H locs hP hD hS => ?_)
        have hP : va_P (dC, dI) vwCl (wM hM hR hT hZ cI m_allRows m_allColumns z_m_rows z_m_columns z_m_cells m_cursor_13 z_m_locked m_insert m_alarms_13 z_m_rejects m_latest m_thrown m_streamLong m_at_13 m_place_13 m_orders_13 m_escaped m_broken_13 m_signBefore_13 m_free_13 z_m_waitsLong m_cutOff m_screen_13 m_stream z_m_waits) H := hP
        have hD : va_D A (wM hM hR hT hZ cI m_allRows m_allColumns z_m_rows z_m_columns z_m_cells m_cursor_13 z_m_locked m_insert m_alarms_13 z_m_rejects m_latest m_thrown m_streamLong m_at_13 m_place_13 m_orders_13 m_escaped m_broken_13 m_signBefore_13 m_free_13 z_m_waitsLong m_cutOff m_screen_13 m_stream z_m_waits) := hD
        refine lv_goto (tgt := 182) hx hb dX6_perform_115 (by decide) ?_
        exact L182  v1 z_m_rows z_m_columns z_m_cells m_cursor_13 z_m_locked m_alarms_13 z_m_rejects m_at_13 m_place_13 m_orders_13 m_broken_13 m_signBefore_13 m_free_13 z_m_waitsLong m_screen_13 z_m_waits _ _ hf  hP hD hS ls (lv_sub hl [0, 1] rfl)
      · have hf := (if_neg c_12).symm.trans hf
        refine lv_iload_n hx hb dX6_perform_104 rfl (lv_at hl 2 rfl) ?_
        refine lv_sipush (v := 241) hx hb dX6_perform_105 (by decide) ?_
        refine lv_icmp_ne (tgt := 118) hx hb dX6_perform_108 (by decide) (fun c_14 => ?_) (fun c_14 => ?_)
        · have hf := (if_neg c_14).symm.trans hf
          refine lv_iload_n hx hb dX6_perform_118 rfl (lv_at hl 2 rfl) ?_
          refine lv_bipush (v := 111) hx hb dX6_perform_119 (by decide) ?_
          refine lv_icmp_ne (tgt := 136) hx hb dX6_perform_121 (by decide) (fun c_15 => ?_) (fun c_15 => ?_)
          · have hf := (if_neg c_15).symm.trans hf
            refine lv_iload_n hx hb dX6_perform_136 rfl (lv_at hl 3 rfl) ?_
            refine lv_if_eq (tgt := 178) hx hb dX6_perform_137 (by decide) (fun c_16 => ?_) (fun c_16 => ?_)
            · have hf := (if_pos c_16).symm.trans hf
              refine lv_aload_n hx hb dX6_perform_178 rfl (lv_at hl 0 rfl) ?_
              obtain ⟨m_broken_17, hq_17, hf⟩ := th_inv hf
              refine my_cVv (As := []) (rest := []) ⟨hx, hb, hml, hown, hts⟩ (c_X6_rejected l dC dI cI hM hR hT hZ m_allRows m_allColumns z_m_rows z_m_columns z_m_cells z_m_cursor z_m_locked m_insert z_m_alarms z_m_rejects m_latest m_thrown m_streamLong z_m_at z_m_place z_m_orders m_escaped z_m_broken z_m_signBefore z_m_free z_m_waitsLong m_cutOff z_m_screen m_stream z_m_waits _  m_broken_17 hq_17) (cwV 0 hts gX6_perform_X6_rejected rfl rfl rfl (by decide +kernel) ⟨Nat.le_of_ble_eq_true rfl, Nat.le_of_ble_eq_true rfl⟩) hK hP hD hS hA 0 7 rfl rfl rfl hl.1 rfl (Nat.le_of_ble_eq_true rfl) dX6_perform_179 ⟨Nat.zero_le _, Nat.zero_le _⟩ (fun _ H locs hP hD hS => ?_)
              have hP : va_P (dC, dI) vwCl (wM hM hR hT hZ cI m_allRows m_allColumns z_m_rows z_m_columns z_m_cells z_m_cursor z_m_locked m_insert z_m_alarms z_m_rejects m_latest m_thrown m_streamLong z_m_at z_m_place z_m_orders m_escaped m_broken_17 z_m_signBefore z_m_free z_m_waitsLong m_cutOff z_m_screen m_stream z_m_waits) H := hP
              have hD : va_D A (wM hM hR hT hZ cI m_allRows m_allColumns z_m_rows z_m_columns z_m_cells z_m_cursor z_m_locked m_insert z_m_alarms z_m_rejects m_latest m_thrown m_streamLong z_m_at z_m_place z_m_orders m_escaped m_broken_17 z_m_signBefore z_m_free z_m_waitsLong m_cutOff z_m_screen m_stream z_m_waits) := hD
              exact L182  v1 z_m_rows z_m_columns z_m_cells z_m_cursor z_m_locked z_m_alarms z_m_rejects z_m_at z_m_place z_m_orders m_broken_17 z_m_signBefore z_m_free z_m_waitsLong z_m_screen z_m_waits _ _ hf  hP hD hS ls (lv_sub hl [0, 1] rfl)
            · have hf := (if_neg c_16).symm.trans hf
              refine lv_aload_n hx hb dX6_perform_140 rfl (lv_at hl 0 rfl) ?_
              refine va_get (D := (dC, dI)) (ci := 7) (v := .int z_m_at) (C := RX6) (T := TX6) (N := 25) hx hb hts uu_X6_perform_X6 hown hK hP 0 rfl rfl 15 (by decide) (hts (.fieldLink RX6 76 "BlockScreenModel" "at" "I") (List.mem_of_getElem? (i := 1) rfl)) (fun _ h9 => h9) rfl dX6_perform_141 ?_
              refine lv_aload_n hx hb dX6_perform_144 rfl (lv_at hl 0 rfl) ?_
              refine va_get (D := (dC, dI)) (ci := 7) (v := .int m_streamLong) (C := RX6) (T := TX6) (N := 25) hx hb hts uu_X6_perform_X6 hown hK hP 0 rfl rfl 14 (by decide) (hts (.fieldLink RX6 79 "BlockScreenModel" "streamLong" "I") (List.mem_of_getElem? (i := 5) rfl)) (fun _ h9 => h9) rfl dX6_perform_145 ?_
              refine lv_icmp_ne (tgt := 178) hx hb dX6_perform_148 (by decide) (fun c_18 => ?_) (fun c_18 => ?_)
              · have hf := (if_neg c_18).symm.trans hf
                refine lv_aload_n hx hb dX6_perform_178 rfl (lv_at hl 0 rfl) ?_
                obtain ⟨m_broken_19, hq_19, hf⟩ := th_inv hf
                refine my_cVv (As := []) (rest := []) ⟨hx, hb, hml, hown, hts⟩ (c_X6_rejected l dC dI cI hM hR hT hZ m_allRows m_allColumns z_m_rows z_m_columns z_m_cells z_m_cursor z_m_locked m_insert z_m_alarms z_m_rejects m_latest m_thrown m_streamLong z_m_at z_m_place z_m_orders m_escaped z_m_broken z_m_signBefore z_m_free z_m_waitsLong m_cutOff z_m_screen m_stream z_m_waits _  m_broken_19 hq_19) (cwV 0 hts gX6_perform_X6_rejected rfl rfl rfl (by decide +kernel) ⟨Nat.le_of_ble_eq_true rfl, Nat.le_of_ble_eq_true rfl⟩) hK hP hD hS hA 0 7 rfl rfl rfl hl.1 rfl (Nat.le_of_ble_eq_true rfl) dX6_perform_179 ⟨Nat.zero_le _, Nat.zero_le _⟩ (fun _ H locs hP hD hS => ?_)
                have hP : va_P (dC, dI) vwCl (wM hM hR hT hZ cI m_allRows m_allColumns z_m_rows z_m_columns z_m_cells z_m_cursor z_m_locked m_insert z_m_alarms z_m_rejects m_latest m_thrown m_streamLong z_m_at z_m_place z_m_orders m_escaped m_broken_19 z_m_signBefore z_m_free z_m_waitsLong m_cutOff z_m_screen m_stream z_m_waits) H := hP
                have hD : va_D A (wM hM hR hT hZ cI m_allRows m_allColumns z_m_rows z_m_columns z_m_cells z_m_cursor z_m_locked m_insert z_m_alarms z_m_rejects m_latest m_thrown m_streamLong z_m_at z_m_place z_m_orders m_escaped m_broken_19 z_m_signBefore z_m_free z_m_waitsLong m_cutOff z_m_screen m_stream z_m_waits) := hD
                exact L182  v1 z_m_rows z_m_columns z_m_cells z_m_cursor z_m_locked z_m_alarms z_m_rejects z_m_at z_m_place z_m_orders m_broken_19 z_m_signBefore z_m_free z_m_waitsLong z_m_screen z_m_waits _ _ hf  hP hD hS ls (lv_sub hl [0, 1] rfl)
              · have hf := (if_pos c_18).symm.trans hf
                refine lv_iload_n hx hb dX6_perform_151 rfl (lv_at hl 1 rfl) ?_
                refine lv_if_ne (tgt := 178) hx hb dX6_perform_152 (by decide) (fun c_20 => ?_) (fun c_20 => ?_)
                · have hf := (if_neg c_20).symm.trans hf
                  refine lv_aload_n hx hb dX6_perform_178 rfl (lv_at hl 0 rfl) ?_
                  obtain ⟨m_broken_21, hq_21, hf⟩ := th_inv hf
                  refine my_cVv (As := []) (rest := []) ⟨hx, hb, hml, hown, hts⟩ (c_X6_rejected l dC dI cI hM hR hT hZ m_allRows m_allColumns z_m_rows z_m_columns z_m_cells z_m_cursor z_m_locked m_insert z_m_alarms z_m_rejects m_latest m_thrown m_streamLong z_m_at z_m_place z_m_orders m_escaped z_m_broken z_m_signBefore z_m_free z_m_waitsLong m_cutOff z_m_screen m_stream z_m_waits _  m_broken_21 hq_21) (cwV 0 hts gX6_perform_X6_rejected rfl rfl rfl (by decide +kernel) ⟨Nat.le_of_ble_eq_true rfl, Nat.le_of_ble_eq_true rfl⟩) hK hP hD hS hA 0 7 rfl rfl rfl hl.1 rfl (Nat.le_of_ble_eq_true rfl) dX6_perform_179 ⟨Nat.zero_le _, Nat.zero_le _⟩ (fun _ H locs hP hD hS => ?_)
                  have hP : va_P (dC, dI) vwCl (wM hM hR hT hZ cI m_allRows m_allColumns z_m_rows z_m_columns z_m_cells z_m_cursor z_m_locked m_insert z_m_alarms z_m_rejects m_latest m_thrown m_streamLong z_m_at z_m_place z_m_orders m_escaped m_broken_21 z_m_signBefore z_m_free z_m_waitsLong m_cutOff z_m_screen m_stream z_m_waits) H := hP
                  have hD : va_D A (wM hM hR hT hZ cI m_allRows m_allColumns z_m_rows z_m_columns z_m_cells z_m_cursor z_m_locked m_insert z_m_alarms z_m_rejects m_latest m_thrown m_streamLong z_m_at z_m_place z_m_orders m_escaped m_broken_21 z_m_signBefore z_m_free z_m_waitsLong m_cutOff z_m_screen m_stream z_m_waits) := hD
                  exact L182  v1 z_m_rows z_m_columns z_m_cells z_m_cursor z_m_locked z_m_alarms z_m_rejects z_m_at z_m_place z_m_orders m_broken_21 z_m_signBefore z_m_free z_m_waitsLong z_m_screen z_m_waits _ _ hf  hP hD hS ls (lv_sub hl [0, 1] rfl)
                · have hf := (if_pos c_20).symm.trans hf
                  refine lv_aload_n hx hb dX6_perform_155 rfl (lv_at hl 0 rfl) ?_
                  refine lv_aload_n hx hb dX6_perform_156 rfl (lv_at hl 0 rfl) ?_
                  refine va_get (D := (dC, dI)) (ci := 7) (v := .int m_latest) (C := RX6) (T := TX6) (N := 25) hx hb hts uu_X6_perform_X6 hown hK hP 0 rfl rfl 11 (by decide) (hts (.fieldLink RX6 17 "BlockScreenModel" "latest" "I") (List.mem_of_getElem? (i := 7) rfl)) (fun _ h9 => h9) rfl dX6_perform_157 ?_
                  refine lv_iload_n hx hb dX6_perform_160 rfl (lv_at hl 2 rfl) ?_
                  refine lv_sipush (v := 242) hx hb dX6_perform_161 (by decide) ?_
                  refine lv_icmp_ne (tgt := 171) hx hb dX6_perform_164 (by decide) (fun c_22 => ?_) (fun c_22 => ?_)
                  · have hf := (if_neg c_22).symm.trans hf
                    refine lv_iconst (v := 0) hx hb dX6_perform_171 (by decide) ?_
                    obtain ⟨⟨m_waitsLong_23, m_waits_23⟩, hq_23, hf⟩ := ob_inv hf
                    refine my_cVv (As := [.int m_latest, .int (b2i false)]) (rest := []) ⟨hx, hb, hml, hown, hts⟩ (c_X6_answer l dC dI cI hM hR hT hZ m_allRows m_allColumns z_m_rows z_m_columns z_m_cells z_m_cursor z_m_locked m_insert z_m_alarms z_m_rejects m_latest m_thrown m_streamLong z_m_at z_m_place z_m_orders m_escaped z_m_broken z_m_signBefore z_m_free z_m_waitsLong m_cutOff z_m_screen m_stream z_m_waits _ m_latest false (m_waitsLong_23, m_waits_23) hq_23) (cwV 2 hts gX6_perform_X6_answer rfl rfl rfl (by decide +kernel) ⟨Nat.le_of_ble_eq_true rfl, Nat.le_of_ble_eq_true rfl⟩) hK hP hD hS hA 0 7 rfl rfl rfl hl.1 rfl (Nat.le_of_ble_eq_true rfl) dX6_perform_172 ⟨Nat.zero_le _, Nat.zero_le _⟩ (fun _ H locs hP hD hS => ?_)
                    have hP : va_P (dC, dI) vwCl (wM hM hR hT hZ cI m_allRows m_allColumns z_m_rows z_m_columns z_m_cells z_m_cursor z_m_locked m_insert z_m_alarms z_m_rejects m_latest m_thrown m_streamLong z_m_at z_m_place z_m_orders m_escaped z_m_broken z_m_signBefore z_m_free m_waitsLong_23 m_cutOff z_m_screen m_stream m_waits_23) H := hP
                    have hD : va_D A (wM hM hR hT hZ cI m_allRows m_allColumns z_m_rows z_m_columns z_m_cells z_m_cursor z_m_locked m_insert z_m_alarms z_m_rejects m_latest m_thrown m_streamLong z_m_at z_m_place z_m_orders m_escaped z_m_broken z_m_signBefore z_m_free m_waitsLong_23 m_cutOff z_m_screen m_stream m_waits_23) := hD
                    refine lv_goto (tgt := 182) hx hb dX6_perform_175 (by decide) ?_
                    exact L182  v1 z_m_rows z_m_columns z_m_cells z_m_cursor z_m_locked z_m_alarms z_m_rejects z_m_at z_m_place z_m_orders z_m_broken z_m_signBefore z_m_free m_waitsLong_23 z_m_screen m_waits_23 _ _ hf  hP hD hS ls (lv_sub hl [0, 1] rfl)
                  · have hf := (if_pos c_22).symm.trans hf
                    refine lv_iconst (v := 1) hx hb dX6_perform_167 (by decide) ?_
                    refine lv_goto (tgt := 172) hx hb dX6_perform_168 (by decide) ?_
                    obtain ⟨⟨m_waitsLong_24, m_waits_24⟩, hq_24, hf⟩ := ob_inv hf
                    refine my_cVv (As := [.int m_latest, .int (b2i true)]) (rest := []) ⟨hx, hb, hml, hown, hts⟩ (c_X6_answer l dC dI cI hM hR hT hZ m_allRows m_allColumns z_m_rows z_m_columns z_m_cells z_m_cursor z_m_locked m_insert z_m_alarms z_m_rejects m_latest m_thrown m_streamLong z_m_at z_m_place z_m_orders m_escaped z_m_broken z_m_signBefore z_m_free z_m_waitsLong m_cutOff z_m_screen m_stream z_m_waits _ m_latest true (m_waitsLong_24, m_waits_24) hq_24) (cwV 2 hts gX6_perform_X6_answer rfl rfl rfl (by decide +kernel) ⟨Nat.le_of_ble_eq_true rfl, Nat.le_of_ble_eq_true rfl⟩) hK hP hD hS hA 0 7 rfl rfl rfl hl.1 rfl (Nat.le_of_ble_eq_true rfl) dX6_perform_172 ⟨Nat.zero_le _, Nat.zero_le _⟩ (fun _ H locs hP hD hS => ?_)
                    have hP : va_P (dC, dI) vwCl (wM hM hR hT hZ cI m_allRows m_allColumns z_m_rows z_m_columns z_m_cells z_m_cursor z_m_locked m_insert z_m_alarms z_m_rejects m_latest m_thrown m_streamLong z_m_at z_m_place z_m_orders m_escaped z_m_broken z_m_signBefore z_m_free m_waitsLong_24 m_cutOff z_m_screen m_stream m_waits_24) H := hP
                    have hD : va_D A (wM hM hR hT hZ cI m_allRows m_allColumns z_m_rows z_m_columns z_m_cells z_m_cursor z_m_locked m_insert z_m_alarms z_m_rejects m_latest m_thrown m_streamLong z_m_at z_m_place z_m_orders m_escaped z_m_broken z_m_signBefore z_m_free m_waitsLong_24 m_cutOff z_m_screen m_stream m_waits_24) := hD
                    refine lv_goto (tgt := 182) hx hb dX6_perform_175 (by decide) ?_
                    exact L182  v1 z_m_rows z_m_columns z_m_cells z_m_cursor z_m_locked z_m_alarms z_m_rejects z_m_at z_m_place z_m_orders z_m_broken z_m_signBefore z_m_free m_waitsLong_24 z_m_screen m_waits_24 _ _ hf  hP hD hS ls (lv_sub hl [0, 1] rfl)
          · have hf := (if_pos c_15).symm.trans hf
            refine lv_aload_n hx hb dX6_perform_124 rfl (lv_at hl 0 rfl) ?_
            obtain ⟨⟨m_cursor_25, m_waitsLong_25, m_screen_25⟩, hq_25, hf⟩ := ob_inv hf
            refine my_cVv (As := []) (rest := []) ⟨hx, hb, hml, hown, hts⟩ (c_X6_eraseInput l dC dI cI hM hR hT hZ m_allRows m_allColumns z_m_rows z_m_columns z_m_cells z_m_cursor z_m_locked m_insert z_m_alarms z_m_rejects m_latest m_thrown m_streamLong z_m_at z_m_place z_m_orders m_escaped z_m_broken z_m_signBefore z_m_free z_m_waitsLong m_cutOff z_m_screen m_stream z_m_waits _  (m_cursor_25, m_waitsLong_25, m_screen_25) hq_25) (cwV 0 hts gX6_perform_X6_eraseInput rfl rfl rfl (by decide +kernel) ⟨Nat.le_of_ble_eq_true rfl, Nat.le_of_ble_eq_true rfl⟩) hK hP hD hS hA 0 7 rfl rfl rfl hl.1 rfl (Nat.le_of_ble_eq_true rfl) dX6_perform_125 ⟨Nat.zero_le _, Nat.zero_le _⟩ (fun _ H locs hP hD hS => ?_)
            have hP : va_P (dC, dI) vwCl (wM hM hR hT hZ cI m_allRows m_allColumns z_m_rows z_m_columns z_m_cells m_cursor_25 z_m_locked m_insert z_m_alarms z_m_rejects m_latest m_thrown m_streamLong z_m_at z_m_place z_m_orders m_escaped z_m_broken z_m_signBefore z_m_free m_waitsLong_25 m_cutOff m_screen_25 m_stream z_m_waits) H := hP
            have hD : va_D A (wM hM hR hT hZ cI m_allRows m_allColumns z_m_rows z_m_columns z_m_cells m_cursor_25 z_m_locked m_insert z_m_alarms z_m_rejects m_latest m_thrown m_streamLong z_m_at z_m_place z_m_orders m_escaped z_m_broken z_m_signBefore z_m_free m_waitsLong_25 m_cutOff m_screen_25 m_stream z_m_waits) := hD
            refine lv_aload_n hx hb dX6_perform_128 rfl (lv_at hl 0 rfl) ?_
            refine lv_iconst (v := 0) hx hb dX6_perform_129 (by decide) ?_
            refine va_put (D := (dC, dI)) (ci := 7) (v := .int 0) (C := RX6) (T := TX6) (N := 25) hx hb hts uu_X6_perform_X6 tyX6 tyX6_ok nmX6 hown hK hP hD hS 0 rfl rfl 7 (by decide) (hts (.fieldLink RX6 13 "BlockScreenModel" "locked" "Z") (List.mem_of_getElem? (i := 6) rfl)) (fun _ h9 => h9) rfl (tyX6_ok 7 (by decide)) rfl rfl (Nat.le_of_ble_eq_true rfl) dX6_perform_130 (fun H locs hP hD hS => ?_)
            have hP : va_P (dC, dI) vwCl (wM hM hR hT hZ cI m_allRows m_allColumns z_m_rows z_m_columns z_m_cells m_cursor_25 false m_insert z_m_alarms z_m_rejects m_latest m_thrown m_streamLong z_m_at z_m_place z_m_orders m_escaped z_m_broken z_m_signBefore z_m_free m_waitsLong_25 m_cutOff m_screen_25 m_stream z_m_waits) H := hP
            have hD : va_D A (wM hM hR hT hZ cI m_allRows m_allColumns z_m_rows z_m_columns z_m_cells m_cursor_25 false m_insert z_m_alarms z_m_rejects m_latest m_thrown m_streamLong z_m_at z_m_place z_m_orders m_escaped z_m_broken z_m_signBefore z_m_free m_waitsLong_25 m_cutOff m_screen_25 m_stream z_m_waits) := hD
            refine lv_goto (tgt := 182) hx hb dX6_perform_133 (by decide) ?_
            exact L182  v1 z_m_rows z_m_columns z_m_cells m_cursor_25 false z_m_alarms z_m_rejects z_m_at z_m_place z_m_orders z_m_broken z_m_signBefore z_m_free m_waitsLong_25 m_screen_25 z_m_waits _ _ hf  hP hD hS ls (lv_sub hl [0, 1] rfl)
        · have hf := (if_pos c_14).symm.trans hf
          refine lv_aload_n hx hb dX6_perform_111 rfl (lv_at hl 0 rfl) ?_
          obtain ⟨⟨m_cursor_26, m_alarms_26, m_at_26, m_place_26, m_orders_26, m_broken_26, m_signBefore_26, m_free_26, m_screen_26⟩, hq_26, hf⟩ := ob_inv hf
          refine my_cVv (As := []) (rest := []) ⟨hx, hb, hml, hown, hts⟩ (c_X6_write l dC dI cI hM hR hT hZ m_allRows m_allColumns z_m_rows z_m_columns z_m_cells z_m_cursor z_m_locked m_insert z_m_alarms z_m_rejects m_latest m_thrown m_streamLong z_m_at z_m_place z_m_orders m_escaped z_m_broken z_m_signBefore z_m_free z_m_waitsLong m_cutOff z_m_screen m_stream z_m_waits _  (m_cursor_26, m_alarms_26, m_at_26, m_place_26, m_orders_26, m_broken_26, m_signBefore_26, m_free_26, m_screen_26) hq_26) (cwV 0 hts gX6_perform_X6_write rfl rfl rfl (by decide +kernel) ⟨Nat.le_of_ble_eq_true rfl, Nat.le_of_ble_eq_true rfl⟩) hK hP hD hS hA 0 7 rfl rfl rfl hl.1 rfl (Nat.le_of_ble_eq_true rfl) dX6_perform_112 ⟨Nat.zero_le _, Nat.zero_le _⟩ (fun _ H locs hP hD hS => ?_)
          have hP : va_P (dC, dI) vwCl (wM hM hR hT hZ cI m_allRows m_allColumns z_m_rows z_m_columns z_m_cells m_cursor_26 z_m_locked m_insert m_alarms_26 z_m_rejects m_latest m_thrown m_streamLong m_at_26 m_place_26 m_orders_26 m_escaped m_broken_26 m_signBefore_26 m_free_26 z_m_waitsLong m_cutOff m_screen_26 m_stream z_m_waits) H := hP
          have hD : va_D A (wM hM hR hT hZ cI m_allRows m_allColumns z_m_rows z_m_columns z_m_cells m_cursor_26 z_m_locked m_insert m_alarms_26 z_m_rejects m_latest m_thrown m_streamLong m_at_26 m_place_26 m_orders_26 m_escaped m_broken_26 m_signBefore_26 m_free_26 z_m_waitsLong m_cutOff m_screen_26 m_stream z_m_waits) := hD
          refine lv_goto (tgt := 182) hx hb dX6_perform_115 (by decide) ?_
          exact L182  v1 z_m_rows z_m_columns z_m_cells m_cursor_26 z_m_locked m_alarms_26 z_m_rejects m_at_26 m_place_26 m_orders_26 m_broken_26 m_signBefore_26 m_free_26 z_m_waitsLong m_screen_26 z_m_waits _ _ hf  hP hD hS ls (lv_sub hl [0, 1] rfl)
  have L56 : ∀ (v1 : Bool) (v2 : Int32) (z_m_rows : Int32) (z_m_columns : Int32) (z_m_cells : Int32) (z_m_cursor : Int32) (z_m_locked : Bool) (z_m_alarms : Int32) (z_m_rejects : Int32) (z_m_at : Int32) (z_m_place : Int32) (z_m_orders : Int32) (z_m_broken : Bool) (z_m_signBefore : Bool) (z_m_free : Bool) (z_m_waitsLong : Int32) (z_m_screen : Nat → Int32) (z_m_waits : Nat → Int32) (H : Heap) (locs : List Loc), f_X6_perform_L56 m_allRows m_allColumns m_latest m_streamLong m_stream v1 v2 z_m_rows z_m_columns z_m_cells z_m_cursor z_m_locked z_m_alarms z_m_rejects z_m_at z_m_place z_m_orders z_m_broken z_m_signBefore z_m_free z_m_waitsLong z_m_screen z_m_waits = some res → va_P (dC, dI) vwCl (wM hM hR hT hZ cI m_allRows m_allColumns z_m_rows z_m_columns z_m_cells z_m_cursor z_m_locked m_insert z_m_alarms z_m_rejects m_latest m_thrown m_streamLong z_m_at z_m_place z_m_orders m_escaped z_m_broken z_m_signBefore z_m_free z_m_waitsLong m_cutOff z_m_screen m_stream z_m_waits) H → va_D A (wM hM hR hT hZ cI m_allRows m_allColumns z_m_rows z_m_columns z_m_cells z_m_cursor z_m_locked m_insert z_m_alarms z_m_rejects m_latest m_thrown m_streamLong z_m_at z_m_place z_m_orders m_escaped z_m_broken z_m_signBefore z_m_free z_m_waitsLong m_cutOff z_m_screen m_stream z_m_waits) → va_S A s.heap H locs → ∀ (ls : Array Slot), lv_has ls 4 [(0, .ref hM), (1, .int (b2i v1)), (2, .int v2)] → W p l e (headSpec wsX6_perform ({ frames := 8, cells := 0, slots := 0, locals := 178 })).room s m ([.ref hM, .int (b2i a1)] : List Value).toArray below meth c H locs 0 0 (MQ below (my_Qv (S := Unit) (dC, dI) [(cI, .int)] (fun _ => wM hM hR hT hZ cI m_allRows m_allColumns res.1 res.2.1 res.2.2.1 res.2.2.2.1 res.2.2.2.2.1 m_insert res.2.2.2.2.2.1 res.2.2.2.2.2.2.1 m_latest m_thrown m_streamLong res.2.2.2.2.2.2.2.1 res.2.2.2.2.2.2.2.2.1 res.2.2.2.2.2.2.2.2.2.1 m_escaped res.2.2.2.2.2.2.2.2.2.2.1 res.2.2.2.2.2.2.2.2.2.2.2.1 res.2.2.2.2.2.2.2.2.2.2.2.2.1 res.2.2.2.2.2.2.2.2.2.2.2.2.2.1 m_cutOff res.2.2.2.2.2.2.2.2.2.2.2.2.2.2.1 m_stream res.2.2.2.2.2.2.2.2.2.2.2.2.2.2.2) A) ([.ref hM, .int (b2i a1)] : List Value).toArray s 0 0 A) (F0 m 56 ls []) := by
    intro v1 v2 z_m_rows z_m_columns z_m_cells z_m_cursor z_m_locked z_m_alarms z_m_rejects z_m_at z_m_place z_m_orders z_m_broken z_m_signBefore z_m_free z_m_waitsLong z_m_screen z_m_waits H locs hf  hP hD hS ls hl
    unfold f_X6_perform_L56 at hf
    refine lv_iconst (v := 1) hx hb dX6_perform_56 (by decide) ?_
    refine lv_goto (tgt := 61) hx hb dX6_perform_57 (by decide) ?_
    refine lv_istore_n (lv' := [(3, .int 1), (0, .ref hM), (1, .int (b2i v1)), (2, .int v2)]) hx hb dX6_perform_61 rfl hl (by decide) rfl (fun ls hl => ?_)
    refine lv_iload_n hx hb dX6_perform_62 rfl (lv_at hl 3 rfl) ?_
    refine lv_sipush (v := 245) hx hb dX6_perform_63 (by decide) ?_
    refine lv_icmp_eq (tgt := 75) hx hb dX6_perform_66 (by decide) (fun c_27 => ?_) (fun c_27 => ?_)
    · have hf := (if_pos c_27).symm.trans hf
      refine lv_aload_n hx hb dX6_perform_75 rfl (lv_at hl 1 rfl) ?_
      refine lv_iload_n hx hb dX6_perform_76 rfl (lv_at hl 3 rfl) ?_
      refine lv_sipush (v := 245) hx hb dX6_perform_77 (by decide) ?_
      refine lv_icmp_ne (tgt := 87) hx hb dX6_perform_80 (by decide) (fun c_28 => ?_) (fun c_28 => ?_)
      · have hf := (if_neg c_28).symm.trans hf
        refine lv_iconst (v := 0) hx hb dX6_perform_87 (by decide) ?_
        obtain ⟨⟨m_rows_29, m_columns_29, m_cells_29, m_cursor_29, m_screen_29⟩, hq_29, hf⟩ := ob_inv hf
        refine my_cVv (As := [.int (b2i false)]) (rest := []) ⟨hx, hb, hml, hown, hts⟩ (c_X6_use l dC dI cI hM hR hT hZ m_allRows m_allColumns z_m_rows z_m_columns z_m_cells z_m_cursor z_m_locked m_insert z_m_alarms z_m_rejects m_latest m_thrown m_streamLong z_m_at z_m_place z_m_orders m_escaped z_m_broken z_m_signBefore z_m_free z_m_waitsLong m_cutOff z_m_screen m_stream z_m_waits _ false (m_rows_29, m_columns_29, m_cells_29, m_cursor_29, m_screen_29) hq_29) (cwV 1 hts gX6_perform_X6_use rfl rfl rfl (by decide +kernel) ⟨Nat.le_of_ble_eq_true rfl, Nat.le_of_ble_eq_true rfl⟩) hK hP hD hS hA 0 7 rfl rfl rfl hl.1 rfl (Nat.le_of_ble_eq_true rfl) dX6_perform_88 ⟨Nat.zero_le _, Nat.zero_le _⟩ (fun _ H locs hP hD hS => ?_)
        have hP : va_P (dC, dI) vwCl (wM hM hR hT hZ cI m_allRows m_allColumns m_rows_29 m_columns_29 m_cells_29 m_cursor_29 z_m_locked m_insert z_m_alarms z_m_rejects m_latest m_thrown m_streamLong z_m_at z_m_place z_m_orders m_escaped z_m_broken z_m_signBefore z_m_free z_m_waitsLong m_cutOff m_screen_29 m_stream z_m_waits) H := hP
        have hD : va_D A (wM hM hR hT hZ cI m_allRows m_allColumns m_rows_29 m_columns_29 m_cells_29 m_cursor_29 z_m_locked m_insert z_m_alarms z_m_rejects m_latest m_thrown m_streamLong z_m_at z_m_place z_m_orders m_escaped z_m_broken z_m_signBefore z_m_free z_m_waitsLong m_cutOff m_screen_29 m_stream z_m_waits) := hD
        exact L91  v1 v2 true m_rows_29 m_columns_29 m_cells_29 m_cursor_29 z_m_locked z_m_alarms z_m_rejects z_m_at z_m_place z_m_orders z_m_broken z_m_signBefore z_m_free z_m_waitsLong m_screen_29 z_m_waits _ _ hf  hP hD hS ls (lv_sub hl [1, 2, 3, 0] rfl)
      · have hf := (if_pos c_28).symm.trans hf
        refine lv_iconst (v := 1) hx hb dX6_perform_83 (by decide) ?_
        refine lv_goto (tgt := 88) hx hb dX6_perform_84 (by decide) ?_
        obtain ⟨⟨m_rows_30, m_columns_30, m_cells_30, m_cursor_30, m_screen_30⟩, hq_30, hf⟩ := ob_inv hf
        refine my_cVv (As := [.int (b2i true)]) (rest := []) ⟨hx, hb, hml, hown, hts⟩ (c_X6_use l dC dI cI hM hR hT hZ m_allRows m_allColumns z_m_rows z_m_columns z_m_cells z_m_cursor z_m_locked m_insert z_m_alarms z_m_rejects m_latest m_thrown m_streamLong z_m_at z_m_place z_m_orders m_escaped z_m_broken z_m_signBefore z_m_free z_m_waitsLong m_cutOff z_m_screen m_stream z_m_waits _ true (m_rows_30, m_columns_30, m_cells_30, m_cursor_30, m_screen_30) hq_30) (cwV 1 hts gX6_perform_X6_use rfl rfl rfl (by decide +kernel) ⟨Nat.le_of_ble_eq_true rfl, Nat.le_of_ble_eq_true rfl⟩) hK hP hD hS hA 0 7 rfl rfl rfl hl.1 rfl (Nat.le_of_ble_eq_true rfl) dX6_perform_88 ⟨Nat.zero_le _, Nat.zero_le _⟩ (fun _ H locs hP hD hS => ?_)
        have hP : va_P (dC, dI) vwCl (wM hM hR hT hZ cI m_allRows m_allColumns m_rows_30 m_columns_30 m_cells_30 m_cursor_30 z_m_locked m_insert z_m_alarms z_m_rejects m_latest m_thrown m_streamLong z_m_at z_m_place z_m_orders m_escaped z_m_broken z_m_signBefore z_m_free z_m_waitsLong m_cutOff m_screen_30 m_stream z_m_waits) H := hP
        have hD : va_D A (wM hM hR hT hZ cI m_allRows m_allColumns m_rows_30 m_columns_30 m_cells_30 m_cursor_30 z_m_locked m_insert z_m_alarms z_m_rejects m_latest m_thrown m_streamLong z_m_at z_m_place z_m_orders m_escaped z_m_broken z_m_signBefore z_m_free z_m_waitsLong m_cutOff m_screen_30 m_stream z_m_waits) := hD
        exact L91  v1 v2 true m_rows_30 m_columns_30 m_cells_30 m_cursor_30 z_m_locked z_m_alarms z_m_rejects z_m_at z_m_place z_m_orders z_m_broken z_m_signBefore z_m_free z_m_waitsLong m_screen_30 z_m_waits _ _ hf  hP hD hS ls (lv_sub hl [1, 2, 3, 0] rfl)
    · have hf := (if_neg c_27).symm.trans hf
      refine lv_iload_n hx hb dX6_perform_69 rfl (lv_at hl 3 rfl) ?_
      refine lv_bipush (v := 126) hx hb dX6_perform_70 (by decide) ?_
      refine lv_icmp_ne (tgt := 91) hx hb dX6_perform_72 (by decide) (fun c_31 => ?_) (fun c_31 => ?_)
      · have hf := (if_neg c_31).symm.trans hf
        exact L91  v1 v2 true z_m_rows z_m_columns z_m_cells z_m_cursor z_m_locked z_m_alarms z_m_rejects z_m_at z_m_place z_m_orders z_m_broken z_m_signBefore z_m_free z_m_waitsLong z_m_screen z_m_waits _ _ hf  hP hD hS ls (lv_sub hl [1, 2, 3, 0] rfl)
      · have hf := (if_pos c_31).symm.trans hf
        refine lv_aload_n hx hb dX6_perform_75 rfl (lv_at hl 1 rfl) ?_
        refine lv_iload_n hx hb dX6_perform_76 rfl (lv_at hl 3 rfl) ?_
        refine lv_sipush (v := 245) hx hb dX6_perform_77 (by decide) ?_
        refine lv_icmp_ne (tgt := 87) hx hb dX6_perform_80 (by decide) (fun c_32 => ?_) (fun c_32 => ?_)
        · have hf := (if_neg c_32).symm.trans hf
          refine lv_iconst (v := 0) hx hb dX6_perform_87 (by decide) ?_
          obtain ⟨⟨m_rows_33, m_columns_33, m_cells_33, m_cursor_33, m_screen_33⟩, hq_33, hf⟩ := ob_inv hf
          refine my_cVv (As := [.int (b2i false)]) (rest := []) ⟨hx, hb, hml, hown, hts⟩ (c_X6_use l dC dI cI hM hR hT hZ m_allRows m_allColumns z_m_rows z_m_columns z_m_cells z_m_cursor z_m_locked m_insert z_m_alarms z_m_rejects m_latest m_thrown m_streamLong z_m_at z_m_place z_m_orders m_escaped z_m_broken z_m_signBefore z_m_free z_m_waitsLong m_cutOff z_m_screen m_stream z_m_waits _ false (m_rows_33, m_columns_33, m_cells_33, m_cursor_33, m_screen_33) hq_33) (cwV 1 hts gX6_perform_X6_use rfl rfl rfl (by decide +kernel) ⟨Nat.le_of_ble_eq_true rfl, Nat.le_of_ble_eq_true rfl⟩) hK hP hD hS hA 0 7 rfl rfl rfl hl.1 rfl (Nat.le_of_ble_eq_true rfl) dX6_perform_88 ⟨Nat.zero_le _, Nat.zero_le _⟩ (fun _ H locs hP hD hS => ?_)
          have hP : va_P (dC, dI) vwCl (wM hM hR hT hZ cI m_allRows m_allColumns m_rows_33 m_columns_33 m_cells_33 m_cursor_33 z_m_locked m_insert z_m_alarms z_m_rejects m_latest m_thrown m_streamLong z_m_at z_m_place z_m_orders m_escaped z_m_broken z_m_signBefore z_m_free z_m_waitsLong m_cutOff m_screen_33 m_stream z_m_waits) H := hP
          have hD : va_D A (wM hM hR hT hZ cI m_allRows m_allColumns m_rows_33 m_columns_33 m_cells_33 m_cursor_33 z_m_locked m_insert z_m_alarms z_m_rejects m_latest m_thrown m_streamLong z_m_at z_m_place z_m_orders m_escaped z_m_broken z_m_signBefore z_m_free z_m_waitsLong m_cutOff m_screen_33 m_stream z_m_waits) := hD
          exact L91  v1 v2 true m_rows_33 m_columns_33 m_cells_33 m_cursor_33 z_m_locked z_m_alarms z_m_rejects z_m_at z_m_place z_m_orders z_m_broken z_m_signBefore z_m_free z_m_waitsLong m_screen_33 z_m_waits _ _ hf  hP hD hS ls (lv_sub hl [1, 2, 3, 0] rfl)
        · have hf := (if_pos c_32).symm.trans hf
          refine lv_iconst (v := 1) hx hb dX6_perform_83 (by decide) ?_
          refine lv_goto (tgt := 88) hx hb dX6_perform_84 (by decide) ?_
          obtain ⟨⟨m_rows_34, m_columns_34, m_cells_34, m_cursor_34, m_screen_34⟩, hq_34, hf⟩ := ob_inv hf
          refine my_cVv (As := [.int (b2i true)]) (rest := []) ⟨hx, hb, hml, hown, hts⟩ (c_X6_use l dC dI cI hM hR hT hZ m_allRows m_allColumns z_m_rows z_m_columns z_m_cells z_m_cursor z_m_locked m_insert z_m_alarms z_m_rejects m_latest m_thrown m_streamLong z_m_at z_m_place z_m_orders m_escaped z_m_broken z_m_signBefore z_m_free z_m_waitsLong m_cutOff z_m_screen m_stream z_m_waits _ true (m_rows_34, m_columns_34, m_cells_34, m_cursor_34, m_screen_34) hq_34) (cwV 1 hts gX6_perform_X6_use rfl rfl rfl (by decide +kernel) ⟨Nat.le_of_ble_eq_true rfl, Nat.le_of_ble_eq_true rfl⟩) hK hP hD hS hA 0 7 rfl rfl rfl hl.1 rfl (Nat.le_of_ble_eq_true rfl) dX6_perform_88 ⟨Nat.zero_le _, Nat.zero_le _⟩ (fun _ H locs hP hD hS => ?_)
          have hP : va_P (dC, dI) vwCl (wM hM hR hT hZ cI m_allRows m_allColumns m_rows_34 m_columns_34 m_cells_34 m_cursor_34 z_m_locked m_insert z_m_alarms z_m_rejects m_latest m_thrown m_streamLong z_m_at z_m_place z_m_orders m_escaped z_m_broken z_m_signBefore z_m_free z_m_waitsLong m_cutOff m_screen_34 m_stream z_m_waits) H := hP
          have hD : va_D A (wM hM hR hT hZ cI m_allRows m_allColumns m_rows_34 m_columns_34 m_cells_34 m_cursor_34 z_m_locked m_insert z_m_alarms z_m_rejects m_latest m_thrown m_streamLong z_m_at z_m_place z_m_orders m_escaped z_m_broken z_m_signBefore z_m_free z_m_waitsLong m_cutOff m_screen_34 m_stream z_m_waits) := hD
          exact L91  v1 v2 true m_rows_34 m_columns_34 m_cells_34 m_cursor_34 z_m_locked z_m_alarms z_m_rejects z_m_at z_m_place z_m_orders z_m_broken z_m_signBefore z_m_free z_m_waitsLong m_screen_34 z_m_waits _ _ hf  hP hD hS ls (lv_sub hl [1, 2, 3, 0] rfl)
  have L35 : ∀ (v1 : Bool) (t0 : Int32) (z_m_rows : Int32) (z_m_columns : Int32) (z_m_cells : Int32) (z_m_cursor : Int32) (z_m_locked : Bool) (z_m_alarms : Int32) (z_m_rejects : Int32) (z_m_at : Int32) (z_m_place : Int32) (z_m_orders : Int32) (z_m_broken : Bool) (z_m_signBefore : Bool) (z_m_free : Bool) (z_m_waitsLong : Int32) (z_m_screen : Nat → Int32) (z_m_waits : Nat → Int32) (H : Heap) (locs : List Loc), f_X6_perform_L35 m_allRows m_allColumns m_latest m_streamLong m_stream v1 t0 z_m_rows z_m_columns z_m_cells z_m_cursor z_m_locked z_m_alarms z_m_rejects z_m_at z_m_place z_m_orders z_m_broken z_m_signBefore z_m_free z_m_waitsLong z_m_screen z_m_waits = some res → va_P (dC, dI) vwCl (wM hM hR hT hZ cI m_allRows m_allColumns z_m_rows z_m_columns z_m_cells z_m_cursor z_m_locked m_insert z_m_alarms z_m_rejects m_latest m_thrown m_streamLong z_m_at z_m_place z_m_orders m_escaped z_m_broken z_m_signBefore z_m_free z_m_waitsLong m_cutOff z_m_screen m_stream z_m_waits) H → va_D A (wM hM hR hT hZ cI m_allRows m_allColumns z_m_rows z_m_columns z_m_cells z_m_cursor z_m_locked m_insert z_m_alarms z_m_rejects m_latest m_thrown m_streamLong z_m_at z_m_place z_m_orders m_escaped z_m_broken z_m_signBefore z_m_free z_m_waitsLong m_cutOff z_m_screen m_stream z_m_waits) → va_S A s.heap H locs → ∀ (ls : Array Slot), lv_has ls 4 [(0, .ref hM), (1, .int (b2i v1))] → W p l e (headSpec wsX6_perform ({ frames := 8, cells := 0, slots := 0, locals := 178 })).room s m ([.ref hM, .int (b2i a1)] : List Value).toArray below meth c H locs 0 0 (MQ below (my_Qv (S := Unit) (dC, dI) [(cI, .int)] (fun _ => wM hM hR hT hZ cI m_allRows m_allColumns res.1 res.2.1 res.2.2.1 res.2.2.2.1 res.2.2.2.2.1 m_insert res.2.2.2.2.2.1 res.2.2.2.2.2.2.1 m_latest m_thrown m_streamLong res.2.2.2.2.2.2.2.1 res.2.2.2.2.2.2.2.2.1 res.2.2.2.2.2.2.2.2.2.1 m_escaped res.2.2.2.2.2.2.2.2.2.2.1 res.2.2.2.2.2.2.2.2.2.2.2.1 res.2.2.2.2.2.2.2.2.2.2.2.2.1 res.2.2.2.2.2.2.2.2.2.2.2.2.2.1 m_cutOff res.2.2.2.2.2.2.2.2.2.2.2.2.2.2.1 m_stream res.2.2.2.2.2.2.2.2.2.2.2.2.2.2.2) A) ([.ref hM, .int (b2i a1)] : List Value).toArray s 0 0 A) (F0 m 35 ls [.int t0]) := by
    intro v1 t0 z_m_rows z_m_columns z_m_cells z_m_cursor z_m_locked z_m_alarms z_m_rejects z_m_at z_m_place z_m_orders z_m_broken z_m_signBefore z_m_free z_m_waitsLong z_m_screen z_m_waits H locs hf  hP hD hS ls hl
    unfold f_X6_perform_L35 at hf
    refine lv_istore_n (lv' := [(2, .int t0), (0, .ref hM), (1, .int (b2i v1))]) hx hb dX6_perform_35 rfl hl (by decide) rfl (fun ls hl => ?_)
    refine lv_iload_n hx hb dX6_perform_36 rfl (lv_at hl 0 rfl) ?_
    refine lv_sipush (v := 242) hx hb dX6_perform_37 (by decide) ?_
    refine lv_icmp_eq (tgt := 56) hx hb dX6_perform_40 (by decide) (fun c_35 => ?_) (fun c_35 => ?_)
    · have hf := (if_pos c_35).symm.trans hf
      exact L56  v1 t0 z_m_rows z_m_columns z_m_cells z_m_cursor z_m_locked z_m_alarms z_m_rejects z_m_at z_m_place z_m_orders z_m_broken z_m_signBefore z_m_free z_m_waitsLong z_m_screen z_m_waits _ _ hf  hP hD hS ls (lv_sub hl [1, 2, 0] rfl)
    · have hf := (if_neg c_35).symm.trans hf
      refine lv_iload_n hx hb dX6_perform_43 rfl (lv_at hl 0 rfl) ?_
      refine lv_sipush (v := 246) hx hb dX6_perform_44 (by decide) ?_
      refine lv_icmp_eq (tgt := 56) hx hb dX6_perform_47 (by decide) (fun c_36 => ?_) (fun c_36 => ?_)
      · have hf := (if_pos c_36).symm.trans hf
        exact L56  v1 t0 z_m_rows z_m_columns z_m_cells z_m_cursor z_m_locked z_m_alarms z_m_rejects z_m_at z_m_place z_m_orders z_m_broken z_m_signBefore z_m_free z_m_waitsLong z_m_screen z_m_waits _ _ hf  hP hD hS ls (lv_sub hl [1, 2, 0] rfl)
      · have hf := (if_neg c_36).symm.trans hf
        refine lv_iload_n hx hb dX6_perform_50 rfl (lv_at hl 0 rfl) ?_
        refine lv_bipush (v := 110) hx hb dX6_perform_51 (by decide) ?_
        refine lv_icmp_ne (tgt := 60) hx hb dX6_perform_53 (by decide) (fun c_37 => ?_) (fun c_37 => ?_)
        · have hf := (if_neg c_37).symm.trans hf
          refine lv_iconst (v := 0) hx hb dX6_perform_60 (by decide) ?_
          refine lv_istore_n (lv' := [(3, .int 0), (2, .int t0), (0, .ref hM), (1, .int (b2i v1))]) hx hb dX6_perform_61 rfl hl (by decide) rfl (fun ls hl => ?_)
          refine lv_iload_n hx hb dX6_perform_62 rfl (lv_at hl 1 rfl) ?_
          refine lv_sipush (v := 245) hx hb dX6_perform_63 (by decide) ?_
          refine lv_icmp_eq (tgt := 75) hx hb dX6_perform_66 (by decide) (fun c_38 => ?_) (fun c_38 => ?_)
          · have hf := (if_pos c_38).symm.trans hf
            refine lv_aload_n hx hb dX6_perform_75 rfl (lv_at hl 2 rfl) ?_
            refine lv_iload_n hx hb dX6_perform_76 rfl (lv_at hl 1 rfl) ?_
            refine lv_sipush (v := 245) hx hb dX6_perform_77 (by decide) ?_
            refine lv_icmp_ne (tgt := 87) hx hb dX6_perform_80 (by decide) (fun c_39 => ?_) (fun c_39 => ?_)
            · have hf := (if_neg c_39).symm.trans hf
              refine lv_iconst (v := 0) hx hb dX6_perform_87 (by decide) ?_
              obtain ⟨⟨m_rows_40, m_columns_40, m_cells_40, m_cursor_40, m_screen_40⟩, hq_40, hf⟩ := ob_inv hf
              refine my_cVv (As := [.int (b2i false)]) (rest := []) ⟨hx, hb, hml, hown, hts⟩ (c_X6_use l dC dI cI hM hR hT hZ m_allRows m_allColumns z_m_rows z_m_columns z_m_cells z_m_cursor z_m_locked m_insert z_m_alarms z_m_rejects m_latest m_thrown m_streamLong z_m_at z_m_place z_m_orders m_escaped z_m_broken z_m_signBefore z_m_free z_m_waitsLong m_cutOff z_m_screen m_stream z_m_waits _ false (m_rows_40, m_columns_40, m_cells_40, m_cursor_40, m_screen_40) hq_40) (cwV 1 hts gX6_perform_X6_use rfl rfl rfl (by decide +kernel) ⟨Nat.le_of_ble_eq_true rfl, Nat.le_of_ble_eq_true rfl⟩) hK hP hD hS hA 0 7 rfl rfl rfl hl.1 rfl (Nat.le_of_ble_eq_true rfl) dX6_perform_88 ⟨Nat.zero_le _, Nat.zero_le _⟩ (fun _ H locs hP hD hS => ?_)
              have hP : va_P (dC, dI) vwCl (wM hM hR hT hZ cI m_allRows m_allColumns m_rows_40 m_columns_40 m_cells_40 m_cursor_40 z_m_locked m_insert z_m_alarms z_m_rejects m_latest m_thrown m_streamLong z_m_at z_m_place z_m_orders m_escaped z_m_broken z_m_signBefore z_m_free z_m_waitsLong m_cutOff m_screen_40 m_stream z_m_waits) H := hP
              have hD : va_D A (wM hM hR hT hZ cI m_allRows m_allColumns m_rows_40 m_columns_40 m_cells_40 m_cursor_40 z_m_locked m_insert z_m_alarms z_m_rejects m_latest m_thrown m_streamLong z_m_at z_m_place z_m_orders m_escaped z_m_broken z_m_signBefore z_m_free z_m_waitsLong m_cutOff m_screen_40 m_stream z_m_waits) := hD
              exact L91  v1 t0 false m_rows_40 m_columns_40 m_cells_40 m_cursor_40 z_m_locked z_m_alarms z_m_rejects z_m_at z_m_place z_m_orders z_m_broken z_m_signBefore z_m_free z_m_waitsLong m_screen_40 z_m_waits _ _ hf  hP hD hS ls (lv_sub hl [2, 3, 1, 0] rfl)
            · have hf := (if_pos c_39).symm.trans hf
              refine lv_iconst (v := 1) hx hb dX6_perform_83 (by decide) ?_
              refine lv_goto (tgt := 88) hx hb dX6_perform_84 (by decide) ?_
              obtain ⟨⟨m_rows_41, m_columns_41, m_cells_41, m_cursor_41, m_screen_41⟩, hq_41, hf⟩ := ob_inv hf
              refine my_cVv (As := [.int (b2i true)]) (rest := []) ⟨hx, hb, hml, hown, hts⟩ (c_X6_use l dC dI cI hM hR hT hZ m_allRows m_allColumns z_m_rows z_m_columns z_m_cells z_m_cursor z_m_locked m_insert z_m_alarms z_m_rejects m_latest m_thrown m_streamLong z_m_at z_m_place z_m_orders m_escaped z_m_broken z_m_signBefore z_m_free z_m_waitsLong m_cutOff z_m_screen m_stream z_m_waits _ true (m_rows_41, m_columns_41, m_cells_41, m_cursor_41, m_screen_41) hq_41) (cwV 1 hts gX6_perform_X6_use rfl rfl rfl (by decide +kernel) ⟨Nat.le_of_ble_eq_true rfl, Nat.le_of_ble_eq_true rfl⟩) hK hP hD hS hA 0 7 rfl rfl rfl hl.1 rfl (Nat.le_of_ble_eq_true rfl) dX6_perform_88 ⟨Nat.zero_le _, Nat.zero_le _⟩ (fun _ H locs hP hD hS => ?_)
              have hP : va_P (dC, dI) vwCl (wM hM hR hT hZ cI m_allRows m_allColumns m_rows_41 m_columns_41 m_cells_41 m_cursor_41 z_m_locked m_insert z_m_alarms z_m_rejects m_latest m_thrown m_streamLong z_m_at z_m_place z_m_orders m_escaped z_m_broken z_m_signBefore z_m_free z_m_waitsLong m_cutOff m_screen_41 m_stream z_m_waits) H := hP
              have hD : va_D A (wM hM hR hT hZ cI m_allRows m_allColumns m_rows_41 m_columns_41 m_cells_41 m_cursor_41 z_m_locked m_insert z_m_alarms z_m_rejects m_latest m_thrown m_streamLong z_m_at z_m_place z_m_orders m_escaped z_m_broken z_m_signBefore z_m_free z_m_waitsLong m_cutOff m_screen_41 m_stream z_m_waits) := hD
              exact L91  v1 t0 false m_rows_41 m_columns_41 m_cells_41 m_cursor_41 z_m_locked z_m_alarms z_m_rejects z_m_at z_m_place z_m_orders z_m_broken z_m_signBefore z_m_free z_m_waitsLong m_screen_41 z_m_waits _ _ hf  hP hD hS ls (lv_sub hl [2, 3, 1, 0] rfl)
          · have hf := (if_neg c_38).symm.trans hf
            refine lv_iload_n hx hb dX6_perform_69 rfl (lv_at hl 1 rfl) ?_
            refine lv_bipush (v := 126) hx hb dX6_perform_70 (by decide) ?_
            refine lv_icmp_ne (tgt := 91) hx hb dX6_perform_72 (by decide) (fun c_42 => ?_) (fun c_42 => ?_)
            · have hf := (if_neg c_42).symm.trans hf
              exact L91  v1 t0 false z_m_rows z_m_columns z_m_cells z_m_cursor z_m_locked z_m_alarms z_m_rejects z_m_at z_m_place z_m_orders z_m_broken z_m_signBefore z_m_free z_m_waitsLong z_m_screen z_m_waits _ _ hf  hP hD hS ls (lv_sub hl [2, 3, 1, 0] rfl)
            · have hf := (if_pos c_42).symm.trans hf
              refine lv_aload_n hx hb dX6_perform_75 rfl (lv_at hl 2 rfl) ?_
              refine lv_iload_n hx hb dX6_perform_76 rfl (lv_at hl 1 rfl) ?_
              refine lv_sipush (v := 245) hx hb dX6_perform_77 (by decide) ?_
              refine lv_icmp_ne (tgt := 87) hx hb dX6_perform_80 (by decide) (fun c_43 => ?_) (fun c_43 => ?_)
              · have hf := (if_neg c_43).symm.trans hf
                refine lv_iconst (v := 0) hx hb dX6_perform_87 (by decide) ?_
                obtain ⟨⟨m_rows_44, m_columns_44, m_cells_44, m_cursor_44, m_screen_44⟩, hq_44, hf⟩ := ob_inv hf
                refine my_cVv (As := [.int (b2i false)]) (rest := []) ⟨hx, hb, hml, hown, hts⟩ (c_X6_use l dC dI cI hM hR hT hZ m_allRows m_allColumns z_m_rows z_m_columns z_m_cells z_m_cursor z_m_locked m_insert z_m_alarms z_m_rejects m_latest m_thrown m_streamLong z_m_at z_m_place z_m_orders m_escaped z_m_broken z_m_signBefore z_m_free z_m_waitsLong m_cutOff z_m_screen m_stream z_m_waits _ false (m_rows_44, m_columns_44, m_cells_44, m_cursor_44, m_screen_44) hq_44) (cwV 1 hts gX6_perform_X6_use rfl rfl rfl (by decide +kernel) ⟨Nat.le_of_ble_eq_true rfl, Nat.le_of_ble_eq_true rfl⟩) hK hP hD hS hA 0 7 rfl rfl rfl hl.1 rfl (Nat.le_of_ble_eq_true rfl) dX6_perform_88 ⟨Nat.zero_le _, Nat.zero_le _⟩ (fun _ H locs hP hD hS => ?_)
                have hP : va_P (dC, dI) vwCl (wM hM hR hT hZ cI m_allRows m_allColumns m_rows_44 m_columns_44 m_cells_44 m_cursor_44 z_m_locked m_insert z_m_alarms z_m_rejects m_latest m_thrown m_streamLong z_m_at z_m_place z_m_orders m_escaped z_m_broken z_m_signBefore z_m_free z_m_waitsLong m_cutOff m_screen_44 m_stream z_m_waits) H := hP
                have hD : va_D A (wM hM hR hT hZ cI m_allRows m_allColumns m_rows_44 m_columns_44 m_cells_44 m_cursor_44 z_m_locked m_insert z_m_alarms z_m_rejects m_latest m_thrown m_streamLong z_m_at z_m_place z_m_orders m_escaped z_m_broken z_m_signBefore z_m_free z_m_waitsLong m_cutOff m_screen_44 m_stream z_m_waits) := hD
                exact L91  v1 t0 false m_rows_44 m_columns_44 m_cells_44 m_cursor_44 z_m_locked z_m_alarms z_m_rejects z_m_at z_m_place z_m_orders z_m_broken z_m_signBefore z_m_free z_m_waitsLong m_screen_44 z_m_waits _ _ hf  hP hD hS ls (lv_sub hl [2, 3, 1, 0] rfl)
              · have hf := (if_pos c_43).symm.trans hf
                refine lv_iconst (v := 1) hx hb dX6_perform_83 (by decide) ?_
                refine lv_goto (tgt := 88) hx hb dX6_perform_84 (by decide) ?_
                obtain ⟨⟨m_rows_45, m_columns_45, m_cells_45, m_cursor_45, m_screen_45⟩, hq_45, hf⟩ := ob_inv hf
                refine my_cVv (As := [.int (b2i true)]) (rest := []) ⟨hx, hb, hml, hown, hts⟩ (c_X6_use l dC dI cI hM hR hT hZ m_allRows m_allColumns z_m_rows z_m_columns z_m_cells z_m_cursor z_m_locked m_insert z_m_alarms z_m_rejects m_latest m_thrown m_streamLong z_m_at z_m_place z_m_orders m_escaped z_m_broken z_m_signBefore z_m_free z_m_waitsLong m_cutOff z_m_screen m_stream z_m_waits _ true (m_rows_45, m_columns_45, m_cells_45, m_cursor_45, m_screen_45) hq_45) (cwV 1 hts gX6_perform_X6_use rfl rfl rfl (by decide +kernel) ⟨Nat.le_of_ble_eq_true rfl, Nat.le_of_ble_eq_true rfl⟩) hK hP hD hS hA 0 7 rfl rfl rfl hl.1 rfl (Nat.le_of_ble_eq_true rfl) dX6_perform_88 ⟨Nat.zero_le _, Nat.zero_le _⟩ (fun _ H locs hP hD hS => ?_)
                have hP : va_P (dC, dI) vwCl (wM hM hR hT hZ cI m_allRows m_allColumns m_rows_45 m_columns_45 m_cells_45 m_cursor_45 z_m_locked m_insert z_m_alarms z_m_rejects m_latest m_thrown m_streamLong z_m_at z_m_place z_m_orders m_escaped z_m_broken z_m_signBefore z_m_free z_m_waitsLong m_cutOff m_screen_45 m_stream z_m_waits) H := hP
                have hD : va_D A (wM hM hR hT hZ cI m_allRows m_allColumns m_rows_45 m_columns_45 m_cells_45 m_cursor_45 z_m_locked m_insert z_m_alarms z_m_rejects m_latest m_thrown m_streamLong z_m_at z_m_place z_m_orders m_escaped z_m_broken z_m_signBefore z_m_free z_m_waitsLong m_cutOff m_screen_45 m_stream z_m_waits) := hD
                exact L91  v1 t0 false m_rows_45 m_columns_45 m_cells_45 m_cursor_45 z_m_locked z_m_alarms z_m_rejects z_m_at z_m_place z_m_orders z_m_broken z_m_signBefore z_m_free z_m_waitsLong m_screen_45 z_m_waits _ _ hf  hP hD hS ls (lv_sub hl [2, 3, 1, 0] rfl)
        · have hf := (if_pos c_37).symm.trans hf
          exact L56  v1 t0 z_m_rows z_m_columns z_m_cells z_m_cursor z_m_locked z_m_alarms z_m_rejects z_m_at z_m_place z_m_orders z_m_broken z_m_signBefore z_m_free z_m_waitsLong z_m_screen z_m_waits _ _ hf  hP hD hS ls (lv_sub hl [1, 2, 0] rfl)
  unfold f_X6_perform at hf
  refine lv_aload_n hx hb dX6_perform_0 rfl (lv_at hl 0 rfl) ?_
  refine lv_iconst (v := 0) hx hb dX6_perform_1 (by decide) ?_
  refine va_put (D := (dC, dI)) (ci := 7) (v := .int 0) (C := RX6) (T := TX6) (N := 25) hx hb hts uu_X6_perform_X6 tyX6 tyX6_ok nmX6 hown hK hP hD hS 0 rfl rfl 15 (by decide) (hts (.fieldLink RX6 76 "BlockScreenModel" "at" "I") (List.mem_of_getElem? (i := 1) rfl)) (fun _ h9 => h9) rfl (tyX6_ok 15 (by decide)) rfl rfl (Nat.le_of_ble_eq_true rfl) dX6_perform_2 (fun H locs hP hD hS => ?_)
  have hP : va_P (dC, dI) vwCl (wM hM hR hT hZ cI m_allRows m_allColumns m_rows m_columns m_cells m_cursor m_locked m_insert m_alarms m_rejects m_latest m_thrown m_streamLong 0 m_place m_orders m_escaped m_broken m_signBefore m_free m_waitsLong m_cutOff m_screen m_stream m_waits) H := hP
  have hD : va_D A (wM hM hR hT hZ cI m_allRows m_allColumns m_rows m_columns m_cells m_cursor m_locked m_insert m_alarms m_rejects m_latest m_thrown m_streamLong 0 m_place m_orders m_escaped m_broken m_signBefore m_free m_waitsLong m_cutOff m_screen m_stream m_waits) := hD
  refine lv_aload_n hx hb dX6_perform_5 rfl (lv_at hl 0 rfl) ?_
  refine lv_iconst (v := 0) hx hb dX6_perform_6 (by decide) ?_
  refine va_put (D := (dC, dI)) (ci := 7) (v := .int 0) (C := RX6) (T := TX6) (N := 25) hx hb hts uu_X6_perform_X6 tyX6 tyX6_ok nmX6 hown hK hP hD hS 0 rfl rfl 17 (by decide) (hts (.fieldLink RX6 125 "BlockScreenModel" "orders" "I") (List.mem_of_getElem? (i := 2) rfl)) (fun _ h9 => h9) rfl (tyX6_ok 17 (by decide)) rfl rfl (Nat.le_of_ble_eq_true rfl) dX6_perform_7 (fun H locs hP hD hS => ?_)
  have hP : va_P (dC, dI) vwCl (wM hM hR hT hZ cI m_allRows m_allColumns m_rows m_columns m_cells m_cursor m_locked m_insert m_alarms m_rejects m_latest m_thrown m_streamLong 0 m_place 0 m_escaped m_broken m_signBefore m_free m_waitsLong m_cutOff m_screen m_stream m_waits) H := hP
  have hD : va_D A (wM hM hR hT hZ cI m_allRows m_allColumns m_rows m_columns m_cells m_cursor m_locked m_insert m_alarms m_rejects m_latest m_thrown m_streamLong 0 m_place 0 m_escaped m_broken m_signBefore m_free m_waitsLong m_cutOff m_screen m_stream m_waits) := hD
  refine lv_aload_n hx hb dX6_perform_10 rfl (lv_at hl 0 rfl) ?_
  refine lv_iconst (v := 0) hx hb dX6_perform_11 (by decide) ?_
  refine va_put (D := (dC, dI)) (ci := 7) (v := .int 0) (C := RX6) (T := TX6) (N := 25) hx hb hts uu_X6_perform_X6 tyX6 tyX6_ok nmX6 hown hK hP hD hS 0 rfl rfl 19 (by decide) (hts (.fieldLink RX6 73 "BlockScreenModel" "broken" "Z") (List.mem_of_getElem? (i := 3) rfl)) (fun _ h9 => h9) rfl (tyX6_ok 19 (by decide)) rfl rfl (Nat.le_of_ble_eq_true rfl) dX6_perform_12 (fun H locs hP hD hS => ?_)
  have hP : va_P (dC, dI) vwCl (wM hM hR hT hZ cI m_allRows m_allColumns m_rows m_columns m_cells m_cursor m_locked m_insert m_alarms m_rejects m_latest m_thrown m_streamLong 0 m_place 0 m_escaped false m_signBefore m_free m_waitsLong m_cutOff m_screen m_stream m_waits) H := hP
  have hD : va_D A (wM hM hR hT hZ cI m_allRows m_allColumns m_rows m_columns m_cells m_cursor m_locked m_insert m_alarms m_rejects m_latest m_thrown m_streamLong 0 m_place 0 m_escaped false m_signBefore m_free m_waitsLong m_cutOff m_screen m_stream m_waits) := hD
  refine lv_aload_n hx hb dX6_perform_15 rfl (lv_at hl 0 rfl) ?_
  refine lv_iconst (v := 0) hx hb dX6_perform_16 (by decide) ?_
  refine va_put (D := (dC, dI)) (ci := 7) (v := .int 0) (C := RX6) (T := TX6) (N := 25) hx hb hts uu_X6_perform_X6 tyX6 tyX6_ok nmX6 hown hK hP hD hS 0 rfl rfl 21 (by decide) (hts (.fieldLink RX6 128 "BlockScreenModel" "free" "Z") (List.mem_of_getElem? (i := 4) rfl)) (fun _ h9 => h9) rfl (tyX6_ok 21 (by decide)) rfl rfl (Nat.le_of_ble_eq_true rfl) dX6_perform_17 (fun H locs hP hD hS => ?_)
  have hP : va_P (dC, dI) vwCl (wM hM hR hT hZ cI m_allRows m_allColumns m_rows m_columns m_cells m_cursor m_locked m_insert m_alarms m_rejects m_latest m_thrown m_streamLong 0 m_place 0 m_escaped false m_signBefore false m_waitsLong m_cutOff m_screen m_stream m_waits) H := hP
  have hD : va_D A (wM hM hR hT hZ cI m_allRows m_allColumns m_rows m_columns m_cells m_cursor m_locked m_insert m_alarms m_rejects m_latest m_thrown m_streamLong 0 m_place 0 m_escaped false m_signBefore false m_waitsLong m_cutOff m_screen m_stream m_waits) := hD
  refine lv_aload_n hx hb dX6_perform_20 rfl (lv_at hl 0 rfl) ?_
  refine va_get (D := (dC, dI)) (ci := 7) (v := .int m_streamLong) (C := RX6) (T := TX6) (N := 25) hx hb hts uu_X6_perform_X6 hown hK hP 0 rfl rfl 14 (by decide) (hts (.fieldLink RX6 79 "BlockScreenModel" "streamLong" "I") (List.mem_of_getElem? (i := 5) rfl)) (fun _ h9 => h9) rfl dX6_perform_21 ?_
  refine lv_if_ne (tgt := 31) hx hb dX6_perform_24 (by decide) (fun c_46 => ?_) (fun c_46 => ?_)
  · have hf := (if_neg c_46).symm.trans hf
    refine lv_aload_n hx hb dX6_perform_31 rfl (lv_at hl 0 rfl) ?_
    obtain ⟨⟨r_47, m_at_47⟩, hq_47, hf⟩ := ob_inv hf
    refine my_cVi (As := []) (rest := []) ⟨hx, hb, hml, hown, hts⟩ (c_X6_take l dC dI cI hM hR hT hZ m_allRows m_allColumns m_rows m_columns m_cells m_cursor m_locked m_insert m_alarms m_rejects m_latest m_thrown m_streamLong 0 m_place 0 m_escaped false m_signBefore false m_waitsLong m_cutOff m_screen m_stream m_waits _  (r_47, m_at_47) hq_47) (cwV 0 hts gX6_perform_X6_take rfl rfl rfl (by decide +kernel) ⟨Nat.le_of_ble_eq_true rfl, Nat.le_of_ble_eq_true rfl⟩) hK hP hD hS hA 0 7 rfl rfl rfl hl.1 rfl (Nat.le_of_ble_eq_true rfl) dX6_perform_32 ⟨Nat.zero_le _, Nat.zero_le _⟩ (fun _ H locs hP hD hS => ?_)
    have hP : va_P (dC, dI) vwCl (wM hM hR hT hZ cI m_allRows m_allColumns m_rows m_columns m_cells m_cursor m_locked m_insert m_alarms m_rejects m_latest m_thrown m_streamLong m_at_47 m_place 0 m_escaped false m_signBefore false m_waitsLong m_cutOff m_screen m_stream m_waits) H := hP
    have hD : va_D A (wM hM hR hT hZ cI m_allRows m_allColumns m_rows m_columns m_cells m_cursor m_locked m_insert m_alarms m_rejects m_latest m_thrown m_streamLong m_at_47 m_place 0 m_escaped false m_signBefore false m_waitsLong m_cutOff m_screen m_stream m_waits) := hD
    exact L35  a1 r_47 m_rows m_columns m_cells m_cursor m_locked m_alarms m_rejects m_at_47 m_place 0 false m_signBefore false m_waitsLong m_screen m_waits _ _ hf  hP hD hS ls (lv_sub hl [0, 1] rfl)
  · have hf := (if_pos c_46).symm.trans hf
    refine lv_iconst (v := (-1)) hx hb dX6_perform_27 (by decide) ?_
    refine lv_goto (tgt := 35) hx hb dX6_perform_28 (by decide) ?_
    exact L35  a1 (-1) m_rows m_columns m_cells m_cursor m_locked m_alarms m_rejects 0 m_place 0 false m_signBefore false m_waitsLong m_screen m_waits _ _ hf  hP hD hS ls (lv_sub hl [0, 1] rfl)

theorem uu_X6_out_X6 : ∀ w ∈ u_ws RX6 TX6 25, w ∈ wsX6_out := fun _ h => List.mem_cons_of_mem _ (List.mem_append_right _ h)
def f_X6_out_L103 (m_allRows : Int32) (m_allColumns : Int32) (m_latest : Int32) (v2 : Int32) (z_m_rows : Int32) (z_m_columns : Int32) (z_m_cells : Int32) (z_m_cursor : Int32) (z_m_locked : Bool) (z_m_alarms : Int32) (z_m_rejects : Int32) (z_m_thrown : Int32) (z_m_streamLong : Int32) (z_m_at : Int32) (z_m_place : Int32) (z_m_orders : Int32) (z_m_escaped : Bool) (z_m_broken : Bool) (z_m_signBefore : Bool) (z_m_free : Bool) (z_m_waitsLong : Int32) (z_m_cutOff : Bool) (z_m_screen : Nat → Int32) (z_m_stream : Nat → Int32) (z_m_waits : Nat → Int32) : Option (Int32 × Int32 × Int32 × Int32 × Int32 × Bool × Int32 × Int32 × Int32 × Int32 × Int32 × Int32 × Int32 × Bool × Bool × Bool × Bool × Int32 × Bool × (Nat → Int32) × (Nat → Int32) × (Nat → Int32)) :=
    if z_m_streamLong = 8192 then
    some (0, z_m_rows, z_m_columns, z_m_cells, z_m_cursor, z_m_locked, z_m_alarms, z_m_rejects, z_m_thrown, z_m_streamLong, z_m_at, z_m_place, z_m_orders, false, z_m_broken, z_m_signBefore, z_m_free, z_m_waitsLong, true, z_m_screen, z_m_stream, z_m_waits)
    else
    if (b2i z_m_cutOff) = 0 then
    if z_m_streamLong < 0 ∨ 8192 ≤ z_m_streamLong.toNatClampNeg then none else
    some (0, z_m_rows, z_m_columns, z_m_cells, z_m_cursor, z_m_locked, z_m_alarms, z_m_rejects, z_m_thrown, z_m_streamLong + 1, z_m_at, z_m_place, z_m_orders, false, z_m_broken, z_m_signBefore, z_m_free, z_m_waitsLong, z_m_cutOff, z_m_screen, upd z_m_stream z_m_streamLong.toNatClampNeg v2, z_m_waits)
    else
    some (0, z_m_rows, z_m_columns, z_m_cells, z_m_cursor, z_m_locked, z_m_alarms, z_m_rejects, z_m_thrown, z_m_streamLong, z_m_at, z_m_place, z_m_orders, false, z_m_broken, z_m_signBefore, z_m_free, z_m_waitsLong, z_m_cutOff, z_m_screen, z_m_stream, z_m_waits)
def f_X6_out_L89 (m_allRows : Int32) (m_allColumns : Int32) (m_latest : Int32) (v2 : Int32) (z_m_rows : Int32) (z_m_columns : Int32) (z_m_cells : Int32) (z_m_cursor : Int32) (z_m_locked : Bool) (z_m_alarms : Int32) (z_m_rejects : Int32) (z_m_thrown : Int32) (z_m_streamLong : Int32) (z_m_at : Int32) (z_m_place : Int32) (z_m_orders : Int32) (z_m_escaped : Bool) (z_m_broken : Bool) (z_m_signBefore : Bool) (z_m_free : Bool) (z_m_waitsLong : Int32) (z_m_cutOff : Bool) (z_m_screen : Nat → Int32) (z_m_stream : Nat → Int32) (z_m_waits : Nat → Int32) : Option (Int32 × Int32 × Int32 × Int32 × Int32 × Bool × Int32 × Int32 × Int32 × Int32 × Int32 × Int32 × Int32 × Bool × Bool × Bool × Bool × Int32 × Bool × (Nat → Int32) × (Nat → Int32) × (Nat → Int32)) :=
    if (b2i z_m_escaped) = 0 then
    f_X6_out_L103 m_allRows m_allColumns m_latest  v2 z_m_rows z_m_columns z_m_cells z_m_cursor z_m_locked z_m_alarms z_m_rejects z_m_thrown z_m_streamLong z_m_at z_m_place z_m_orders z_m_escaped z_m_broken z_m_signBefore z_m_free z_m_waitsLong z_m_cutOff z_m_screen z_m_stream z_m_waits
    else
    if v2 = 255 then
    f_X6_out_L103 m_allRows m_allColumns m_latest  v2 z_m_rows z_m_columns z_m_cells z_m_cursor z_m_locked z_m_alarms z_m_rejects z_m_thrown z_m_streamLong z_m_at z_m_place z_m_orders z_m_escaped z_m_broken z_m_signBefore z_m_free z_m_waitsLong z_m_cutOff z_m_screen z_m_stream z_m_waits
    else
    some (0, z_m_rows, z_m_columns, z_m_cells, z_m_cursor, z_m_locked, z_m_alarms, z_m_rejects, z_m_thrown, z_m_streamLong, z_m_at, z_m_place, z_m_orders, false, z_m_broken, z_m_signBefore, z_m_free, z_m_waitsLong, true, z_m_screen, z_m_stream, z_m_waits)
def f_X6_out (m_allRows : Int32) (m_allColumns : Int32) (m_rows : Int32) (m_columns : Int32) (m_cells : Int32) (m_cursor : Int32) (m_locked : Bool) (m_alarms : Int32) (m_rejects : Int32) (m_latest : Int32) (m_thrown : Int32) (m_streamLong : Int32) (m_at : Int32) (m_place : Int32) (m_orders : Int32) (m_escaped : Bool) (m_broken : Bool) (m_signBefore : Bool) (m_free : Bool) (m_waitsLong : Int32) (m_cutOff : Bool) (m_screen : Nat → Int32) (m_stream : Nat → Int32) (m_waits : Nat → Int32) (a1 : Int32) : Option (Int32 × Int32 × Int32 × Int32 × Int32 × Bool × Int32 × Int32 × Int32 × Int32 × Int32 × Int32 × Int32 × Bool × Bool × Bool × Bool × Int32 × Bool × (Nat → Int32) × (Nat → Int32) × (Nat → Int32)) :=
    if (b2i m_escaped) = 0 then
    if (b2i m_escaped) = 0 then
    if (a1 &&& 255) = 255 then
    some (0, m_rows, m_columns, m_cells, m_cursor, m_locked, m_alarms, m_rejects, 0, m_streamLong, m_at, m_place, m_orders, true, m_broken, m_signBefore, m_free, m_waitsLong, m_cutOff, m_screen, m_stream, m_waits)
    else
    f_X6_out_L89 m_allRows m_allColumns m_latest  (a1 &&& 255) m_rows m_columns m_cells m_cursor m_locked m_alarms m_rejects 0 m_streamLong m_at m_place m_orders m_escaped m_broken m_signBefore m_free m_waitsLong m_cutOff m_screen m_stream m_waits
    else
    f_X6_out_L89 m_allRows m_allColumns m_latest  (a1 &&& 255) m_rows m_columns m_cells m_cursor m_locked m_alarms m_rejects 0 m_streamLong m_at m_place m_orders m_escaped m_broken m_signBefore m_free m_waitsLong m_cutOff m_screen m_stream m_waits
    else
    if (a1 &&& 255) = 239 then
    Option.bind (f_X6_perform m_allRows m_allColumns m_rows m_columns m_cells m_cursor m_locked m_alarms m_rejects m_latest m_streamLong m_at m_place m_orders m_broken m_signBefore m_free m_waitsLong m_screen m_stream m_waits m_cutOff) (fun (m_rows_14, m_columns_14, m_cells_14, m_cursor_14, m_locked_14, m_alarms_14, m_rejects_14, m_at_14, m_place_14, m_orders_14, m_broken_14, m_signBefore_14, m_free_14, m_waitsLong_14, m_screen_14, m_waits_14) =>
    if (b2i m_broken_14) = 0 then
    some (1 + m_orders_14, m_rows_14, m_columns_14, m_cells_14, m_cursor_14, m_locked_14, m_alarms_14, m_rejects_14, 0, 0, m_at_14, m_place_14, m_orders_14, false, m_broken_14, m_signBefore_14, m_free_14, m_waitsLong_14, false, m_screen_14, m_stream, m_waits_14)
    else
    some ((-1), m_rows_14, m_columns_14, m_cells_14, m_cursor_14, m_locked_14, m_alarms_14, m_rejects_14, 0, 0, m_at_14, m_place_14, m_orders_14, false, m_broken_14, m_signBefore_14, m_free_14, m_waitsLong_14, false, m_screen_14, m_stream, m_waits_14))
    else
    if (b2i m_escaped) = 0 then
    if (a1 &&& 255) = 255 then
    some (0, m_rows, m_columns, m_cells, m_cursor, m_locked, m_alarms, m_rejects, 0, m_streamLong, m_at, m_place, m_orders, true, m_broken, m_signBefore, m_free, m_waitsLong, m_cutOff, m_screen, m_stream, m_waits)
    else
    f_X6_out_L89 m_allRows m_allColumns m_latest  (a1 &&& 255) m_rows m_columns m_cells m_cursor m_locked m_alarms m_rejects 0 m_streamLong m_at m_place m_orders m_escaped m_broken m_signBefore m_free m_waitsLong m_cutOff m_screen m_stream m_waits
    else
    f_X6_out_L89 m_allRows m_allColumns m_latest  (a1 &&& 255) m_rows m_columns m_cells m_cursor m_locked m_alarms m_rejects 0 m_streamLong m_at m_place m_orders m_escaped m_broken m_signBefore m_free m_waitsLong m_cutOff m_screen m_stream m_waits
set_option maxHeartbeats 400000 in
set_option maxRecDepth 100000 in
theorem c_X6_out (l : Launch) (dC : Nat → ClassId) (dI : Nat → Nat → Nat) (cI : ClassId) (hM hR hT hZ : Nat) (m_allRows : Int32) (m_allColumns : Int32) (m_rows : Int32) (m_columns : Int32) (m_cells : Int32) (m_cursor : Int32) (m_locked : Bool) (m_insert : Bool) (m_alarms : Int32) (m_rejects : Int32) (m_latest : Int32) (m_thrown : Int32) (m_streamLong : Int32) (m_at : Int32) (m_place : Int32) (m_orders : Int32) (m_escaped : Bool) (m_broken : Bool) (m_signBefore : Bool) (m_free : Bool) (m_waitsLong : Int32) (m_cutOff : Bool) (m_screen : Nat → Int32) (m_stream : Nat → Int32) (m_waits : Nat → Int32) (sz : Nat) (a1 : Int32) (res : Int32 × Int32 × Int32 × Int32 × Int32 × Bool × Int32 × Int32 × Int32 × Int32 × Int32 × Int32 × Int32 × Bool × Bool × Bool × Bool × Int32 × Bool × (Nat → Int32) × (Nat → Int32) × (Nat → Int32)) (hf : f_X6_out m_allRows m_allColumns m_rows m_columns m_cells m_cursor m_locked m_alarms m_rejects m_latest m_thrown m_streamLong m_at m_place m_orders m_escaped m_broken m_signBefore m_free m_waitsLong m_cutOff m_screen m_stream m_waits a1 = some res) : Met l yX6_out wsX6_out ({ frames := 9, cells := 0, slots := 0, locals := 201 }) (va_Pc [.ref hM, .int a1] (my_Pre (dC, dI) [(cI, .int)] (wM hM hR hT hZ cI m_allRows m_allColumns m_rows m_columns m_cells m_cursor m_locked m_insert m_alarms m_rejects m_latest m_thrown m_streamLong m_at m_place m_orders m_escaped m_broken m_signBefore m_free m_waitsLong m_cutOff m_screen m_stream m_waits) sz)) (my_Qi (S := Unit) (dC, dI) [(cI, .int)] res.1 (fun _ => wM hM hR hT hZ cI m_allRows m_allColumns res.2.1 res.2.2.1 res.2.2.2.1 res.2.2.2.2.1 res.2.2.2.2.2.1 m_insert res.2.2.2.2.2.2.1 res.2.2.2.2.2.2.2.1 m_latest res.2.2.2.2.2.2.2.2.1 res.2.2.2.2.2.2.2.2.2.1 res.2.2.2.2.2.2.2.2.2.2.1 res.2.2.2.2.2.2.2.2.2.2.2.1 res.2.2.2.2.2.2.2.2.2.2.2.2.1 res.2.2.2.2.2.2.2.2.2.2.2.2.2.1 res.2.2.2.2.2.2.2.2.2.2.2.2.2.2.1 res.2.2.2.2.2.2.2.2.2.2.2.2.2.2.2.1 res.2.2.2.2.2.2.2.2.2.2.2.2.2.2.2.2.1 res.2.2.2.2.2.2.2.2.2.2.2.2.2.2.2.2.2.1 res.2.2.2.2.2.2.2.2.2.2.2.2.2.2.2.2.2.2.1 res.2.2.2.2.2.2.2.2.2.2.2.2.2.2.2.2.2.2.2.1 res.2.2.2.2.2.2.2.2.2.2.2.2.2.2.2.2.2.2.2.2.1 res.2.2.2.2.2.2.2.2.2.2.2.2.2.2.2.2.2.2.2.2.2) (va_A (wM hM hR hT hZ cI m_allRows m_allColumns m_rows m_columns m_cells m_cursor m_locked m_insert m_alarms m_rejects m_latest m_thrown m_streamLong m_at m_place m_orders m_escaped m_broken m_signBefore m_free m_waitsLong m_cutOff m_screen m_stream m_waits) sz)) 0 0 (va_A (wM hM hR hT hZ cI m_allRows m_allColumns m_rows m_columns m_cells m_cursor m_locked m_insert m_alarms m_rejects m_latest m_thrown m_streamLong m_at m_place m_orders m_escaped m_broken m_signBefore m_free m_waitsLong m_cutOff m_screen m_stream m_waits) sz) := by
  refine my_enter (cc := cX6_out) (maxL := 4) (ret := (some .int)) (Qc := my_Qi (S := Unit) (dC, dI) [(cI, .int)] res.1 (fun _ => wM hM hR hT hZ cI m_allRows m_allColumns res.2.1 res.2.2.1 res.2.2.2.1 res.2.2.2.2.1 res.2.2.2.2.2.1 m_insert res.2.2.2.2.2.2.1 res.2.2.2.2.2.2.2.1 m_latest res.2.2.2.2.2.2.2.2.1 res.2.2.2.2.2.2.2.2.2.1 res.2.2.2.2.2.2.2.2.2.2.1 res.2.2.2.2.2.2.2.2.2.2.2.1 res.2.2.2.2.2.2.2.2.2.2.2.2.1 res.2.2.2.2.2.2.2.2.2.2.2.2.2.1 res.2.2.2.2.2.2.2.2.2.2.2.2.2.2.1 res.2.2.2.2.2.2.2.2.2.2.2.2.2.2.2.1 res.2.2.2.2.2.2.2.2.2.2.2.2.2.2.2.2.1 res.2.2.2.2.2.2.2.2.2.2.2.2.2.2.2.2.2.1 res.2.2.2.2.2.2.2.2.2.2.2.2.2.2.2.2.2.2.1 res.2.2.2.2.2.2.2.2.2.2.2.2.2.2.2.2.2.2.2.1 res.2.2.2.2.2.2.2.2.2.2.2.2.2.2.2.2.2.2.2.2.1 res.2.2.2.2.2.2.2.2.2.2.2.2.2.2.2.2.2.2.2.2.2)) (by decide) rfl (Nat.le_of_ble_eq_true rfl) ?_
  intro p e s m below meth c A ls hx hb hr hml hts hown hlocks hnm hP hK hD hA hS hl
  have hown : s.vm.findClass RX6 = some m.cls := hown
  have hl : lv_has ls 4 [(0, .ref hM), (1, .int a1)] := hl
  have L103 : ∀ (v2 : Int32) (z_m_rows : Int32) (z_m_columns : Int32) (z_m_cells : Int32) (z_m_cursor : Int32) (z_m_locked : Bool) (z_m_alarms : Int32) (z_m_rejects : Int32) (z_m_thrown : Int32) (z_m_streamLong : Int32) (z_m_at : Int32) (z_m_place : Int32) (z_m_orders : Int32) (z_m_escaped : Bool) (z_m_broken : Bool) (z_m_signBefore : Bool) (z_m_free : Bool) (z_m_waitsLong : Int32) (z_m_cutOff : Bool) (z_m_screen : Nat → Int32) (z_m_stream : Nat → Int32) (z_m_waits : Nat → Int32) (H : Heap) (locs : List Loc), f_X6_out_L103 m_allRows m_allColumns m_latest v2 z_m_rows z_m_columns z_m_cells z_m_cursor z_m_locked z_m_alarms z_m_rejects z_m_thrown z_m_streamLong z_m_at z_m_place z_m_orders z_m_escaped z_m_broken z_m_signBefore z_m_free z_m_waitsLong z_m_cutOff z_m_screen z_m_stream z_m_waits = some res → va_P (dC, dI) vwCl (wM hM hR hT hZ cI m_allRows m_allColumns z_m_rows z_m_columns z_m_cells z_m_cursor z_m_locked m_insert z_m_alarms z_m_rejects m_latest z_m_thrown z_m_streamLong z_m_at z_m_place z_m_orders z_m_escaped z_m_broken z_m_signBefore z_m_free z_m_waitsLong z_m_cutOff z_m_screen z_m_stream z_m_waits) H → va_D A (wM hM hR hT hZ cI m_allRows m_allColumns z_m_rows z_m_columns z_m_cells z_m_cursor z_m_locked m_insert z_m_alarms z_m_rejects m_latest z_m_thrown z_m_streamLong z_m_at z_m_place z_m_orders z_m_escaped z_m_broken z_m_signBefore z_m_free z_m_waitsLong z_m_cutOff z_m_screen z_m_stream z_m_waits) → va_S A s.heap H locs → ∀ (ls : Array Slot), lv_has ls 4 [(0, .ref hM), (2, .int v2)] → W p l e (headSpec wsX6_out ({ frames := 9, cells := 0, slots := 0, locals := 201 })).room s m ([.ref hM, .int a1] : List Value).toArray below meth c H locs 0 0 (MQ below (my_Qi (S := Unit) (dC, dI) [(cI, .int)] res.1 (fun _ => wM hM hR hT hZ cI m_allRows m_allColumns res.2.1 res.2.2.1 res.2.2.2.1 res.2.2.2.2.1 res.2.2.2.2.2.1 m_insert res.2.2.2.2.2.2.1 res.2.2.2.2.2.2.2.1 m_latest res.2.2.2.2.2.2.2.2.1 res.2.2.2.2.2.2.2.2.2.1 res.2.2.2.2.2.2.2.2.2.2.1 res.2.2.2.2.2.2.2.2.2.2.2.1 res.2.2.2.2.2.2.2.2.2.2.2.2.1 res.2.2.2.2.2.2.2.2.2.2.2.2.2.1 res.2.2.2.2.2.2.2.2.2.2.2.2.2.2.1 res.2.2.2.2.2.2.2.2.2.2.2.2.2.2.2.1 res.2.2.2.2.2.2.2.2.2.2.2.2.2.2.2.2.1 res.2.2.2.2.2.2.2.2.2.2.2.2.2.2.2.2.2.1 res.2.2.2.2.2.2.2.2.2.2.2.2.2.2.2.2.2.2.1 res.2.2.2.2.2.2.2.2.2.2.2.2.2.2.2.2.2.2.2.1 res.2.2.2.2.2.2.2.2.2.2.2.2.2.2.2.2.2.2.2.2.1 res.2.2.2.2.2.2.2.2.2.2.2.2.2.2.2.2.2.2.2.2.2) A) ([.ref hM, .int a1] : List Value).toArray s 0 0 A) (F0 m 103 ls []) := by
    intro v2 z_m_rows z_m_columns z_m_cells z_m_cursor z_m_locked z_m_alarms z_m_rejects z_m_thrown z_m_streamLong z_m_at z_m_place z_m_orders z_m_escaped z_m_broken z_m_signBefore z_m_free z_m_waitsLong z_m_cutOff z_m_screen z_m_stream z_m_waits H locs hf  hP hD hS ls hl
    unfold f_X6_out_L103 at hf
    refine lv_aload_n hx hb dX6_out_103 rfl (lv_at hl 0 rfl) ?_
    refine va_get (D := (dC, dI)) (ci := 7) (v := .int z_m_streamLong) (C := RX6) (T := TX6) (N := 25) hx hb hts uu_X6_out_X6 hown hK hP 0 rfl rfl 14 (by decide) (hts (.fieldLink RX6 79 "BlockScreenModel" "streamLong" "I") (List.mem_of_getElem? (i := 4) rfl)) (fun _ h9 => h9) rfl dX6_out_104 ?_
    refine lv_sipush (v := 8192) hx hb dX6_out_107 (by decide) ?_
    refine lv_icmp_ne (tgt := 118) hx hb dX6_out_110 (by decide) (fun c_1 => ?_) (fun c_1 => ?_)
    · have hf := (if_neg c_1).symm.trans hf
      refine lv_aload_n hx hb dX6_out_118 rfl (lv_at hl 0 rfl) ?_
      refine lv_iconst (v := 0) hx hb dX6_out_119 (by decide) ?_
      refine va_put (D := (dC, dI)) (ci := 7) (v := .int 0) (C := RX6) (T := TX6) (N := 25) hx hb hts uu_X6_out_X6 tyX6 tyX6_ok nmX6 hown hK hP hD hS 0 rfl rfl 18 (by decide) (hts (.fieldLink RX6 156 "BlockScreenModel" "escaped" "Z") (List.mem_of_getElem? (i := 2) rfl)) (fun _ h9 => h9) rfl (tyX6_ok 18 (by decide)) rfl rfl (Nat.le_of_ble_eq_true rfl) dX6_out_120 (fun H locs hP hD hS => ?_)
      have hP : va_P (dC, dI) vwCl (wM hM hR hT hZ cI m_allRows m_allColumns z_m_rows z_m_columns z_m_cells z_m_cursor z_m_locked m_insert z_m_alarms z_m_rejects m_latest z_m_thrown z_m_streamLong z_m_at z_m_place z_m_orders false z_m_broken z_m_signBefore z_m_free z_m_waitsLong z_m_cutOff z_m_screen z_m_stream z_m_waits) H := hP
      have hD : va_D A (wM hM hR hT hZ cI m_allRows m_allColumns z_m_rows z_m_columns z_m_cells z_m_cursor z_m_locked m_insert z_m_alarms z_m_rejects m_latest z_m_thrown z_m_streamLong z_m_at z_m_place z_m_orders false z_m_broken z_m_signBefore z_m_free z_m_waitsLong z_m_cutOff z_m_screen z_m_stream z_m_waits) := hD
      refine lv_aload_n hx hb dX6_out_123 rfl (lv_at hl 0 rfl) ?_
      refine va_get (D := (dC, dI)) (ci := 7) (v := .int (b2i z_m_cutOff)) (C := RX6) (T := TX6) (N := 25) hx hb hts uu_X6_out_X6 hown hK hP 0 rfl rfl 24 (by decide) (hts (.fieldLink RX6 159 "BlockScreenModel" "cutOff" "Z") (List.mem_of_getElem? (i := 3) rfl)) (fun _ h9 => h9) rfl dX6_out_124 ?_
      refine lv_if_eq (tgt := 132) hx hb dX6_out_127 (by decide) (fun c_2 => ?_) (fun c_2 => ?_)
      · have hf := (if_pos c_2).symm.trans hf
        refine lv_aload_n hx hb dX6_out_132 rfl (lv_at hl 0 rfl) ?_
        refine va_get (D := (dC, dI)) (ci := 7) (v := .ref hT) (C := RX6) (T := TX6) (N := 25) hx hb hts uu_X6_out_X6 hown hK hP 0 rfl rfl 13 (by decide) (hts (.fieldLink RX6 21 "BlockScreenModel" "stream" "[I") (List.mem_of_getElem? (i := 7) rfl)) (fun _ h9 => h9) rfl dX6_out_133 ?_
        refine lv_aload_n hx hb dX6_out_136 rfl (lv_at hl 0 rfl) ?_
        refine va_get (D := (dC, dI)) (ci := 7) (v := .int z_m_streamLong) (C := RX6) (T := TX6) (N := 25) hx hb hts uu_X6_out_X6 hown hK hP 0 rfl rfl 14 (by decide) (hts (.fieldLink RX6 79 "BlockScreenModel" "streamLong" "I") (List.mem_of_getElem? (i := 4) rfl)) (fun _ h9 => h9) rfl dX6_out_137 ?_
        refine lv_iload_n hx hb dX6_out_140 rfl (lv_at hl 1 rfl) ?_
        rcases Classical.em (z_m_streamLong < 0 ∨ 8192 ≤ z_m_streamLong.toNatClampNeg) with c_3 | c_3
        · exact nn_abs ((if_pos c_3).symm.trans hf)
        have hf := (if_neg c_3).symm.trans hf
        refine va_iast hx hb hK hP hD hS 2 0 rfl rfl c_3 dX6_out_141 (fun H locs hP hD hS => ?_)
        have hP : va_P (dC, dI) vwCl (wM hM hR hT hZ cI m_allRows m_allColumns z_m_rows z_m_columns z_m_cells z_m_cursor z_m_locked m_insert z_m_alarms z_m_rejects m_latest z_m_thrown z_m_streamLong z_m_at z_m_place z_m_orders false z_m_broken z_m_signBefore z_m_free z_m_waitsLong z_m_cutOff z_m_screen (upd z_m_stream z_m_streamLong.toNatClampNeg v2) z_m_waits) H := hP
        have hD : va_D A (wM hM hR hT hZ cI m_allRows m_allColumns z_m_rows z_m_columns z_m_cells z_m_cursor z_m_locked m_insert z_m_alarms z_m_rejects m_latest z_m_thrown z_m_streamLong z_m_at z_m_place z_m_orders false z_m_broken z_m_signBefore z_m_free z_m_waitsLong z_m_cutOff z_m_screen (upd z_m_stream z_m_streamLong.toNatClampNeg v2) z_m_waits) := hD
        refine lv_aload_n hx hb dX6_out_142 rfl (lv_at hl 0 rfl) ?_
        refine lv_dup hx hb dX6_out_143 rfl ?_
        refine va_get (D := (dC, dI)) (ci := 7) (v := .int z_m_streamLong) (C := RX6) (T := TX6) (N := 25) hx hb hts uu_X6_out_X6 hown hK hP 0 rfl rfl 14 (by decide) (hts (.fieldLink RX6 79 "BlockScreenModel" "streamLong" "I") (List.mem_of_getElem? (i := 4) rfl)) (fun _ h9 => h9) rfl dX6_out_144 ?_
        refine lv_iconst (v := 1) hx hb dX6_out_147 (by decide) ?_
        refine lv_iadd hx hb dX6_out_148 ?_
        refine va_put (D := (dC, dI)) (ci := 7) (v := .int (z_m_streamLong + 1)) (C := RX6) (T := TX6) (N := 25) hx hb hts uu_X6_out_X6 tyX6 tyX6_ok nmX6 hown hK hP hD hS 0 rfl rfl 14 (by decide) (hts (.fieldLink RX6 79 "BlockScreenModel" "streamLong" "I") (List.mem_of_getElem? (i := 4) rfl)) (fun _ h9 => h9) rfl (tyX6_ok 14 (by decide)) rfl rfl (Nat.le_of_ble_eq_true rfl) dX6_out_149 (fun H locs hP hD hS => ?_)
        have hP : va_P (dC, dI) vwCl (wM hM hR hT hZ cI m_allRows m_allColumns z_m_rows z_m_columns z_m_cells z_m_cursor z_m_locked m_insert z_m_alarms z_m_rejects m_latest z_m_thrown (z_m_streamLong + 1) z_m_at z_m_place z_m_orders false z_m_broken z_m_signBefore z_m_free z_m_waitsLong z_m_cutOff z_m_screen (upd z_m_stream z_m_streamLong.toNatClampNeg v2) z_m_waits) H := hP
        have hD : va_D A (wM hM hR hT hZ cI m_allRows m_allColumns z_m_rows z_m_columns z_m_cells z_m_cursor z_m_locked m_insert z_m_alarms z_m_rejects m_latest z_m_thrown (z_m_streamLong + 1) z_m_at z_m_place z_m_orders false z_m_broken z_m_signBefore z_m_free z_m_waitsLong z_m_cutOff z_m_screen (upd z_m_stream z_m_streamLong.toNatClampNeg v2) z_m_waits) := hD
        refine lv_iconst (v := 0) hx hb dX6_out_152 (by decide) ?_
        have hf := Option.some.inj hf
        subst hf
        exact my_reti () hx hb hr hlocks hK hP hD hS rfl dX6_out_153
      · have hf := (if_neg c_2).symm.trans hf
        refine lv_iconst (v := 0) hx hb dX6_out_130 (by decide) ?_
        have hf := Option.some.inj hf
        subst hf
        exact my_reti () hx hb hr hlocks hK hP hD hS rfl dX6_out_131
    · have hf := (if_pos c_1).symm.trans hf
      refine lv_aload_n hx hb dX6_out_113 rfl (lv_at hl 0 rfl) ?_
      refine lv_iconst (v := 1) hx hb dX6_out_114 (by decide) ?_
      refine va_put (D := (dC, dI)) (ci := 7) (v := .int 1) (C := RX6) (T := TX6) (N := 25) hx hb hts uu_X6_out_X6 tyX6 tyX6_ok nmX6 hown hK hP hD hS 0 rfl rfl 24 (by decide) (hts (.fieldLink RX6 159 "BlockScreenModel" "cutOff" "Z") (List.mem_of_getElem? (i := 3) rfl)) (fun _ h9 => h9) rfl (tyX6_ok 24 (by decide)) rfl rfl (Nat.le_of_ble_eq_true rfl) dX6_out_115 (fun H locs hP hD hS => ?_)
      have hP : va_P (dC, dI) vwCl (wM hM hR hT hZ cI m_allRows m_allColumns z_m_rows z_m_columns z_m_cells z_m_cursor z_m_locked m_insert z_m_alarms z_m_rejects m_latest z_m_thrown z_m_streamLong z_m_at z_m_place z_m_orders z_m_escaped z_m_broken z_m_signBefore z_m_free z_m_waitsLong true z_m_screen z_m_stream z_m_waits) H := hP
      have hD : va_D A (wM hM hR hT hZ cI m_allRows m_allColumns z_m_rows z_m_columns z_m_cells z_m_cursor z_m_locked m_insert z_m_alarms z_m_rejects m_latest z_m_thrown z_m_streamLong z_m_at z_m_place z_m_orders z_m_escaped z_m_broken z_m_signBefore z_m_free z_m_waitsLong true z_m_screen z_m_stream z_m_waits) := hD
      refine lv_aload_n hx hb dX6_out_118 rfl (lv_at hl 0 rfl) ?_
      refine lv_iconst (v := 0) hx hb dX6_out_119 (by decide) ?_
      refine va_put (D := (dC, dI)) (ci := 7) (v := .int 0) (C := RX6) (T := TX6) (N := 25) hx hb hts uu_X6_out_X6 tyX6 tyX6_ok nmX6 hown hK hP hD hS 0 rfl rfl 18 (by decide) (hts (.fieldLink RX6 156 "BlockScreenModel" "escaped" "Z") (List.mem_of_getElem? (i := 2) rfl)) (fun _ h9 => h9) rfl (tyX6_ok 18 (by decide)) rfl rfl (Nat.le_of_ble_eq_true rfl) dX6_out_120 (fun H locs hP hD hS => ?_)
      have hP : va_P (dC, dI) vwCl (wM hM hR hT hZ cI m_allRows m_allColumns z_m_rows z_m_columns z_m_cells z_m_cursor z_m_locked m_insert z_m_alarms z_m_rejects m_latest z_m_thrown z_m_streamLong z_m_at z_m_place z_m_orders false z_m_broken z_m_signBefore z_m_free z_m_waitsLong true z_m_screen z_m_stream z_m_waits) H := hP
      have hD : va_D A (wM hM hR hT hZ cI m_allRows m_allColumns z_m_rows z_m_columns z_m_cells z_m_cursor z_m_locked m_insert z_m_alarms z_m_rejects m_latest z_m_thrown z_m_streamLong z_m_at z_m_place z_m_orders false z_m_broken z_m_signBefore z_m_free z_m_waitsLong true z_m_screen z_m_stream z_m_waits) := hD
      refine lv_aload_n hx hb dX6_out_123 rfl (lv_at hl 0 rfl) ?_
      refine va_get (D := (dC, dI)) (ci := 7) (v := .int 1) (C := RX6) (T := TX6) (N := 25) hx hb hts uu_X6_out_X6 hown hK hP 0 rfl rfl 24 (by decide) (hts (.fieldLink RX6 159 "BlockScreenModel" "cutOff" "Z") (List.mem_of_getElem? (i := 3) rfl)) (fun _ h9 => h9) rfl dX6_out_124 ?_
      refine lv_if_eq (tgt := 132) hx hb dX6_out_127 (by decide) (fun c_4 => ?_) (fun c_4 => ?_)
      · exact absurd c_4 (by decide)
      · refine lv_iconst (v := 0) hx hb dX6_out_130 (by decide) ?_
        have hf := Option.some.inj hf
        subst hf
        exact my_reti () hx hb hr hlocks hK hP hD hS rfl dX6_out_131
  have L89 : ∀ (v2 : Int32) (z_m_rows : Int32) (z_m_columns : Int32) (z_m_cells : Int32) (z_m_cursor : Int32) (z_m_locked : Bool) (z_m_alarms : Int32) (z_m_rejects : Int32) (z_m_thrown : Int32) (z_m_streamLong : Int32) (z_m_at : Int32) (z_m_place : Int32) (z_m_orders : Int32) (z_m_escaped : Bool) (z_m_broken : Bool) (z_m_signBefore : Bool) (z_m_free : Bool) (z_m_waitsLong : Int32) (z_m_cutOff : Bool) (z_m_screen : Nat → Int32) (z_m_stream : Nat → Int32) (z_m_waits : Nat → Int32) (H : Heap) (locs : List Loc), f_X6_out_L89 m_allRows m_allColumns m_latest v2 z_m_rows z_m_columns z_m_cells z_m_cursor z_m_locked z_m_alarms z_m_rejects z_m_thrown z_m_streamLong z_m_at z_m_place z_m_orders z_m_escaped z_m_broken z_m_signBefore z_m_free z_m_waitsLong z_m_cutOff z_m_screen z_m_stream z_m_waits = some res → va_P (dC, dI) vwCl (wM hM hR hT hZ cI m_allRows m_allColumns z_m_rows z_m_columns z_m_cells z_m_cursor z_m_locked m_insert z_m_alarms z_m_rejects m_latest z_m_thrown z_m_streamLong z_m_at z_m_place z_m_orders z_m_escaped z_m_broken z_m_signBefore z_m_free z_m_waitsLong z_m_cutOff z_m_screen z_m_stream z_m_waits) H → va_D A (wM hM hR hT hZ cI m_allRows m_allColumns z_m_rows z_m_columns z_m_cells z_m_cursor z_m_locked m_insert z_m_alarms z_m_rejects m_latest z_m_thrown z_m_streamLong z_m_at z_m_place z_m_orders z_m_escaped z_m_broken z_m_signBefore z_m_free z_m_waitsLong z_m_cutOff z_m_screen z_m_stream z_m_waits) → va_S A s.heap H locs → ∀ (ls : Array Slot), lv_has ls 4 [(0, .ref hM), (2, .int v2)] → W p l e (headSpec wsX6_out ({ frames := 9, cells := 0, slots := 0, locals := 201 })).room s m ([.ref hM, .int a1] : List Value).toArray below meth c H locs 0 0 (MQ below (my_Qi (S := Unit) (dC, dI) [(cI, .int)] res.1 (fun _ => wM hM hR hT hZ cI m_allRows m_allColumns res.2.1 res.2.2.1 res.2.2.2.1 res.2.2.2.2.1 res.2.2.2.2.2.1 m_insert res.2.2.2.2.2.2.1 res.2.2.2.2.2.2.2.1 m_latest res.2.2.2.2.2.2.2.2.1 res.2.2.2.2.2.2.2.2.2.1 res.2.2.2.2.2.2.2.2.2.2.1 res.2.2.2.2.2.2.2.2.2.2.2.1 res.2.2.2.2.2.2.2.2.2.2.2.2.1 res.2.2.2.2.2.2.2.2.2.2.2.2.2.1 res.2.2.2.2.2.2.2.2.2.2.2.2.2.2.1 res.2.2.2.2.2.2.2.2.2.2.2.2.2.2.2.1 res.2.2.2.2.2.2.2.2.2.2.2.2.2.2.2.2.1 res.2.2.2.2.2.2.2.2.2.2.2.2.2.2.2.2.2.1 res.2.2.2.2.2.2.2.2.2.2.2.2.2.2.2.2.2.2.1 res.2.2.2.2.2.2.2.2.2.2.2.2.2.2.2.2.2.2.2.1 res.2.2.2.2.2.2.2.2.2.2.2.2.2.2.2.2.2.2.2.2.1 res.2.2.2.2.2.2.2.2.2.2.2.2.2.2.2.2.2.2.2.2.2) A) ([.ref hM, .int a1] : List Value).toArray s 0 0 A) (F0 m 89 ls []) := by
    intro v2 z_m_rows z_m_columns z_m_cells z_m_cursor z_m_locked z_m_alarms z_m_rejects z_m_thrown z_m_streamLong z_m_at z_m_place z_m_orders z_m_escaped z_m_broken z_m_signBefore z_m_free z_m_waitsLong z_m_cutOff z_m_screen z_m_stream z_m_waits H locs hf  hP hD hS ls hl
    unfold f_X6_out_L89 at hf
    refine lv_aload_n hx hb dX6_out_89 rfl (lv_at hl 0 rfl) ?_
    refine va_get (D := (dC, dI)) (ci := 7) (v := .int (b2i z_m_escaped)) (C := RX6) (T := TX6) (N := 25) hx hb hts uu_X6_out_X6 hown hK hP 0 rfl rfl 18 (by decide) (hts (.fieldLink RX6 156 "BlockScreenModel" "escaped" "Z") (List.mem_of_getElem? (i := 2) rfl)) (fun _ h9 => h9) rfl dX6_out_90 ?_
    refine lv_if_eq (tgt := 103) hx hb dX6_out_93 (by decide) (fun c_5 => ?_) (fun c_5 => ?_)
    · have hf := (if_pos c_5).symm.trans hf
      exact L103  v2 z_m_rows z_m_columns z_m_cells z_m_cursor z_m_locked z_m_alarms z_m_rejects z_m_thrown z_m_streamLong z_m_at z_m_place z_m_orders z_m_escaped z_m_broken z_m_signBefore z_m_free z_m_waitsLong z_m_cutOff z_m_screen z_m_stream z_m_waits _ _ hf  hP hD hS ls (lv_sub hl [0, 1] rfl)
    · have hf := (if_neg c_5).symm.trans hf
      refine lv_iload_n hx hb dX6_out_96 rfl (lv_at hl 1 rfl) ?_
      refine lv_sipush (v := 255) hx hb dX6_out_97 (by decide) ?_
      refine lv_icmp_ne (tgt := 113) hx hb dX6_out_100 (by decide) (fun c_6 => ?_) (fun c_6 => ?_)
      · have hf := (if_neg c_6).symm.trans hf
        refine lv_aload_n hx hb dX6_out_113 rfl (lv_at hl 0 rfl) ?_
        refine lv_iconst (v := 1) hx hb dX6_out_114 (by decide) ?_
        refine va_put (D := (dC, dI)) (ci := 7) (v := .int 1) (C := RX6) (T := TX6) (N := 25) hx hb hts uu_X6_out_X6 tyX6 tyX6_ok nmX6 hown hK hP hD hS 0 rfl rfl 24 (by decide) (hts (.fieldLink RX6 159 "BlockScreenModel" "cutOff" "Z") (List.mem_of_getElem? (i := 3) rfl)) (fun _ h9 => h9) rfl (tyX6_ok 24 (by decide)) rfl rfl (Nat.le_of_ble_eq_true rfl) dX6_out_115 (fun H locs hP hD hS => ?_)
        have hP : va_P (dC, dI) vwCl (wM hM hR hT hZ cI m_allRows m_allColumns z_m_rows z_m_columns z_m_cells z_m_cursor z_m_locked m_insert z_m_alarms z_m_rejects m_latest z_m_thrown z_m_streamLong z_m_at z_m_place z_m_orders z_m_escaped z_m_broken z_m_signBefore z_m_free z_m_waitsLong true z_m_screen z_m_stream z_m_waits) H := hP
        have hD : va_D A (wM hM hR hT hZ cI m_allRows m_allColumns z_m_rows z_m_columns z_m_cells z_m_cursor z_m_locked m_insert z_m_alarms z_m_rejects m_latest z_m_thrown z_m_streamLong z_m_at z_m_place z_m_orders z_m_escaped z_m_broken z_m_signBefore z_m_free z_m_waitsLong true z_m_screen z_m_stream z_m_waits) := hD
        refine lv_aload_n hx hb dX6_out_118 rfl (lv_at hl 0 rfl) ?_
        refine lv_iconst (v := 0) hx hb dX6_out_119 (by decide) ?_
        refine va_put (D := (dC, dI)) (ci := 7) (v := .int 0) (C := RX6) (T := TX6) (N := 25) hx hb hts uu_X6_out_X6 tyX6 tyX6_ok nmX6 hown hK hP hD hS 0 rfl rfl 18 (by decide) (hts (.fieldLink RX6 156 "BlockScreenModel" "escaped" "Z") (List.mem_of_getElem? (i := 2) rfl)) (fun _ h9 => h9) rfl (tyX6_ok 18 (by decide)) rfl rfl (Nat.le_of_ble_eq_true rfl) dX6_out_120 (fun H locs hP hD hS => ?_)
        have hP : va_P (dC, dI) vwCl (wM hM hR hT hZ cI m_allRows m_allColumns z_m_rows z_m_columns z_m_cells z_m_cursor z_m_locked m_insert z_m_alarms z_m_rejects m_latest z_m_thrown z_m_streamLong z_m_at z_m_place z_m_orders false z_m_broken z_m_signBefore z_m_free z_m_waitsLong true z_m_screen z_m_stream z_m_waits) H := hP
        have hD : va_D A (wM hM hR hT hZ cI m_allRows m_allColumns z_m_rows z_m_columns z_m_cells z_m_cursor z_m_locked m_insert z_m_alarms z_m_rejects m_latest z_m_thrown z_m_streamLong z_m_at z_m_place z_m_orders false z_m_broken z_m_signBefore z_m_free z_m_waitsLong true z_m_screen z_m_stream z_m_waits) := hD
        refine lv_aload_n hx hb dX6_out_123 rfl (lv_at hl 0 rfl) ?_
        refine va_get (D := (dC, dI)) (ci := 7) (v := .int 1) (C := RX6) (T := TX6) (N := 25) hx hb hts uu_X6_out_X6 hown hK hP 0 rfl rfl 24 (by decide) (hts (.fieldLink RX6 159 "BlockScreenModel" "cutOff" "Z") (List.mem_of_getElem? (i := 3) rfl)) (fun _ h9 => h9) rfl dX6_out_124 ?_
        refine lv_if_eq (tgt := 132) hx hb dX6_out_127 (by decide) (fun c_7 => ?_) (fun c_7 => ?_)
        · exact absurd c_7 (by decide)
        · refine lv_iconst (v := 0) hx hb dX6_out_130 (by decide) ?_
          have hf := Option.some.inj hf
          subst hf
          exact my_reti () hx hb hr hlocks hK hP hD hS rfl dX6_out_131
      · have hf := (if_pos c_6).symm.trans hf
        exact L103  v2 z_m_rows z_m_columns z_m_cells z_m_cursor z_m_locked z_m_alarms z_m_rejects z_m_thrown z_m_streamLong z_m_at z_m_place z_m_orders z_m_escaped z_m_broken z_m_signBefore z_m_free z_m_waitsLong z_m_cutOff z_m_screen z_m_stream z_m_waits _ _ hf  hP hD hS ls (lv_sub hl [0, 1] rfl)
  unfold f_X6_out at hf
  refine lv_aload_n hx hb dX6_out_0 rfl (lv_at hl 0 rfl) ?_
  refine lv_iconst (v := 0) hx hb dX6_out_1 (by decide) ?_
  refine va_put (D := (dC, dI)) (ci := 7) (v := .int 0) (C := RX6) (T := TX6) (N := 25) hx hb hts uu_X6_out_X6 tyX6 tyX6_ok nmX6 hown hK hP hD hS 0 rfl rfl 12 (by decide) (hts (.fieldLink RX6 37 "BlockScreenModel" "thrown" "I") (List.mem_of_getElem? (i := 1) rfl)) (fun _ h9 => h9) rfl (tyX6_ok 12 (by decide)) rfl rfl (Nat.le_of_ble_eq_true rfl) dX6_out_2 (fun H locs hP hD hS => ?_)
  have hP : va_P (dC, dI) vwCl (wM hM hR hT hZ cI m_allRows m_allColumns m_rows m_columns m_cells m_cursor m_locked m_insert m_alarms m_rejects m_latest 0 m_streamLong m_at m_place m_orders m_escaped m_broken m_signBefore m_free m_waitsLong m_cutOff m_screen m_stream m_waits) H := hP
  have hD : va_D A (wM hM hR hT hZ cI m_allRows m_allColumns m_rows m_columns m_cells m_cursor m_locked m_insert m_alarms m_rejects m_latest 0 m_streamLong m_at m_place m_orders m_escaped m_broken m_signBefore m_free m_waitsLong m_cutOff m_screen m_stream m_waits) := hD
  refine lv_iload_n hx hb dX6_out_5 rfl (lv_at hl 1 rfl) ?_
  refine lv_sipush (v := 255) hx hb dX6_out_6 (by decide) ?_
  refine lv_iand hx hb dX6_out_9 ?_
  refine lv_istore_n (lv' := [(2, .int (a1 &&& 255)), (0, .ref hM), (1, .int a1)]) hx hb dX6_out_10 rfl hl (by decide) rfl (fun ls hl => ?_)
  refine lv_aload_n hx hb dX6_out_11 rfl (lv_at hl 1 rfl) ?_
  refine va_get (D := (dC, dI)) (ci := 7) (v := .int (b2i m_escaped)) (C := RX6) (T := TX6) (N := 25) hx hb hts uu_X6_out_X6 hown hK hP 0 rfl rfl 18 (by decide) (hts (.fieldLink RX6 156 "BlockScreenModel" "escaped" "Z") (List.mem_of_getElem? (i := 2) rfl)) (fun _ h9 => h9) rfl dX6_out_12 ?_
  refine lv_if_eq (tgt := 68) hx hb dX6_out_15 (by decide) (fun c_8 => ?_) (fun c_8 => ?_)
  · have hf := (if_pos c_8).symm.trans hf
    refine lv_aload_n hx hb dX6_out_68 rfl (lv_at hl 1 rfl) ?_
    refine va_get (D := (dC, dI)) (ci := 7) (v := .int (b2i m_escaped)) (C := RX6) (T := TX6) (N := 25) hx hb hts uu_X6_out_X6 hown hK hP 0 rfl rfl 18 (by decide) (hts (.fieldLink RX6 156 "BlockScreenModel" "escaped" "Z") (List.mem_of_getElem? (i := 2) rfl)) (fun _ h9 => h9) rfl dX6_out_69 ?_
    refine lv_if_ne (tgt := 89) hx hb dX6_out_72 (by decide) (fun c_9 => ?_) (fun c_9 => ?_)
    · have hf := (if_neg c_9).symm.trans hf
      exact L89  (a1 &&& 255) m_rows m_columns m_cells m_cursor m_locked m_alarms m_rejects 0 m_streamLong m_at m_place m_orders m_escaped m_broken m_signBefore m_free m_waitsLong m_cutOff m_screen m_stream m_waits _ _ hf  hP hD hS ls (lv_sub hl [1, 0] rfl)
    · have hf := (if_pos c_9).symm.trans hf
      refine lv_iload_n hx hb dX6_out_75 rfl (lv_at hl 0 rfl) ?_
      refine lv_sipush (v := 255) hx hb dX6_out_76 (by decide) ?_
      refine lv_icmp_ne (tgt := 89) hx hb dX6_out_79 (by decide) (fun c_10 => ?_) (fun c_10 => ?_)
      · have hf := (if_neg c_10).symm.trans hf
        exact L89  (a1 &&& 255) m_rows m_columns m_cells m_cursor m_locked m_alarms m_rejects 0 m_streamLong m_at m_place m_orders m_escaped m_broken m_signBefore m_free m_waitsLong m_cutOff m_screen m_stream m_waits _ _ hf  hP hD hS ls (lv_sub hl [1, 0] rfl)
      · have hf := (if_pos c_10).symm.trans hf
        refine lv_aload_n hx hb dX6_out_82 rfl (lv_at hl 1 rfl) ?_
        refine lv_iconst (v := 1) hx hb dX6_out_83 (by decide) ?_
        refine va_put (D := (dC, dI)) (ci := 7) (v := .int 1) (C := RX6) (T := TX6) (N := 25) hx hb hts uu_X6_out_X6 tyX6 tyX6_ok nmX6 hown hK hP hD hS 0 rfl rfl 18 (by decide) (hts (.fieldLink RX6 156 "BlockScreenModel" "escaped" "Z") (List.mem_of_getElem? (i := 2) rfl)) (fun _ h9 => h9) rfl (tyX6_ok 18 (by decide)) rfl rfl (Nat.le_of_ble_eq_true rfl) dX6_out_84 (fun H locs hP hD hS => ?_)
        have hP : va_P (dC, dI) vwCl (wM hM hR hT hZ cI m_allRows m_allColumns m_rows m_columns m_cells m_cursor m_locked m_insert m_alarms m_rejects m_latest 0 m_streamLong m_at m_place m_orders true m_broken m_signBefore m_free m_waitsLong m_cutOff m_screen m_stream m_waits) H := hP
        have hD : va_D A (wM hM hR hT hZ cI m_allRows m_allColumns m_rows m_columns m_cells m_cursor m_locked m_insert m_alarms m_rejects m_latest 0 m_streamLong m_at m_place m_orders true m_broken m_signBefore m_free m_waitsLong m_cutOff m_screen m_stream m_waits) := hD
        refine lv_iconst (v := 0) hx hb dX6_out_87 (by decide) ?_
        have hf := Option.some.inj hf
        subst hf
        exact my_reti () hx hb hr hlocks hK hP hD hS rfl dX6_out_88
  · have hf := (if_neg c_8).symm.trans hf
    refine lv_iload_n hx hb dX6_out_18 rfl (lv_at hl 0 rfl) ?_
    refine lv_sipush (v := 239) hx hb dX6_out_19 (by decide) ?_
    refine lv_icmp_ne (tgt := 68) hx hb dX6_out_22 (by decide) (fun c_11 => ?_) (fun c_11 => ?_)
    · have hf := (if_neg c_11).symm.trans hf
      refine lv_aload_n hx hb dX6_out_68 rfl (lv_at hl 1 rfl) ?_
      refine va_get (D := (dC, dI)) (ci := 7) (v := .int (b2i m_escaped)) (C := RX6) (T := TX6) (N := 25) hx hb hts uu_X6_out_X6 hown hK hP 0 rfl rfl 18 (by decide) (hts (.fieldLink RX6 156 "BlockScreenModel" "escaped" "Z") (List.mem_of_getElem? (i := 2) rfl)) (fun _ h9 => h9) rfl dX6_out_69 ?_
      refine lv_if_ne (tgt := 89) hx hb dX6_out_72 (by decide) (fun c_12 => ?_) (fun c_12 => ?_)
      · have hf := (if_neg c_12).symm.trans hf
        exact L89  (a1 &&& 255) m_rows m_columns m_cells m_cursor m_locked m_alarms m_rejects 0 m_streamLong m_at m_place m_orders m_escaped m_broken m_signBefore m_free m_waitsLong m_cutOff m_screen m_stream m_waits _ _ hf  hP hD hS ls (lv_sub hl [1, 0] rfl)
      · have hf := (if_pos c_12).symm.trans hf
        refine lv_iload_n hx hb dX6_out_75 rfl (lv_at hl 0 rfl) ?_
        refine lv_sipush (v := 255) hx hb dX6_out_76 (by decide) ?_
        refine lv_icmp_ne (tgt := 89) hx hb dX6_out_79 (by decide) (fun c_13 => ?_) (fun c_13 => ?_)
        · have hf := (if_neg c_13).symm.trans hf
          exact L89  (a1 &&& 255) m_rows m_columns m_cells m_cursor m_locked m_alarms m_rejects 0 m_streamLong m_at m_place m_orders m_escaped m_broken m_signBefore m_free m_waitsLong m_cutOff m_screen m_stream m_waits _ _ hf  hP hD hS ls (lv_sub hl [1, 0] rfl)
        · have hf := (if_pos c_13).symm.trans hf
          refine lv_aload_n hx hb dX6_out_82 rfl (lv_at hl 1 rfl) ?_
          refine lv_iconst (v := 1) hx hb dX6_out_83 (by decide) ?_
          refine va_put (D := (dC, dI)) (ci := 7) (v := .int 1) (C := RX6) (T := TX6) (N := 25) hx hb hts uu_X6_out_X6 tyX6 tyX6_ok nmX6 hown hK hP hD hS 0 rfl rfl 18 (by decide) (hts (.fieldLink RX6 156 "BlockScreenModel" "escaped" "Z") (List.mem_of_getElem? (i := 2) rfl)) (fun _ h9 => h9) rfl (tyX6_ok 18 (by decide)) rfl rfl (Nat.le_of_ble_eq_true rfl) dX6_out_84 (fun H locs hP hD hS => ?_)
          have hP : va_P (dC, dI) vwCl (wM hM hR hT hZ cI m_allRows m_allColumns m_rows m_columns m_cells m_cursor m_locked m_insert m_alarms m_rejects m_latest 0 m_streamLong m_at m_place m_orders true m_broken m_signBefore m_free m_waitsLong m_cutOff m_screen m_stream m_waits) H := hP
          have hD : va_D A (wM hM hR hT hZ cI m_allRows m_allColumns m_rows m_columns m_cells m_cursor m_locked m_insert m_alarms m_rejects m_latest 0 m_streamLong m_at m_place m_orders true m_broken m_signBefore m_free m_waitsLong m_cutOff m_screen m_stream m_waits) := hD
          refine lv_iconst (v := 0) hx hb dX6_out_87 (by decide) ?_
          have hf := Option.some.inj hf
          subst hf
          exact my_reti () hx hb hr hlocks hK hP hD hS rfl dX6_out_88
    · have hf := (if_pos c_11).symm.trans hf
      refine lv_aload_n hx hb dX6_out_25 rfl (lv_at hl 1 rfl) ?_
      refine va_get (D := (dC, dI)) (ci := 7) (v := .int (b2i m_cutOff)) (C := RX6) (T := TX6) (N := 25) hx hb hts uu_X6_out_X6 hown hK hP 0 rfl rfl 24 (by decide) (hts (.fieldLink RX6 159 "BlockScreenModel" "cutOff" "Z") (List.mem_of_getElem? (i := 3) rfl)) (fun _ h9 => h9) rfl dX6_out_26 ?_
      refine lv_istore_n (lv' := [(3, .int (b2i m_cutOff)), (2, .int (a1 &&& 255)), (0, .ref hM), (1, .int a1)]) hx hb dX6_out_29 rfl hl (by decide) rfl (fun ls hl => ?_)
      refine lv_aload_n hx hb dX6_out_30 rfl (lv_at hl 2 rfl) ?_
      refine lv_iconst (v := 0) hx hb dX6_out_31 (by decide) ?_
      refine va_put (D := (dC, dI)) (ci := 7) (v := .int 0) (C := RX6) (T := TX6) (N := 25) hx hb hts uu_X6_out_X6 tyX6 tyX6_ok nmX6 hown hK hP hD hS 0 rfl rfl 18 (by decide) (hts (.fieldLink RX6 156 "BlockScreenModel" "escaped" "Z") (List.mem_of_getElem? (i := 2) rfl)) (fun _ h9 => h9) rfl (tyX6_ok 18 (by decide)) rfl rfl (Nat.le_of_ble_eq_true rfl) dX6_out_32 (fun H locs hP hD hS => ?_)
      have hP : va_P (dC, dI) vwCl (wM hM hR hT hZ cI m_allRows m_allColumns m_rows m_columns m_cells m_cursor m_locked m_insert m_alarms m_rejects m_latest 0 m_streamLong m_at m_place m_orders false m_broken m_signBefore m_free m_waitsLong m_cutOff m_screen m_stream m_waits) H := hP
      have hD : va_D A (wM hM hR hT hZ cI m_allRows m_allColumns m_rows m_columns m_cells m_cursor m_locked m_insert m_alarms m_rejects m_latest 0 m_streamLong m_at m_place m_orders false m_broken m_signBefore m_free m_waitsLong m_cutOff m_screen m_stream m_waits) := hD
      refine lv_aload_n hx hb dX6_out_35 rfl (lv_at hl 2 rfl) ?_
      refine lv_iconst (v := 0) hx hb dX6_out_36 (by decide) ?_
      refine va_put (D := (dC, dI)) (ci := 7) (v := .int 0) (C := RX6) (T := TX6) (N := 25) hx hb hts uu_X6_out_X6 tyX6 tyX6_ok nmX6 hown hK hP hD hS 0 rfl rfl 24 (by decide) (hts (.fieldLink RX6 159 "BlockScreenModel" "cutOff" "Z") (List.mem_of_getElem? (i := 3) rfl)) (fun _ h9 => h9) rfl (tyX6_ok 24 (by decide)) rfl rfl (Nat.le_of_ble_eq_true rfl) dX6_out_37 (fun H locs hP hD hS => ?_)
      have hP : va_P (dC, dI) vwCl (wM hM hR hT hZ cI m_allRows m_allColumns m_rows m_columns m_cells m_cursor m_locked m_insert m_alarms m_rejects m_latest 0 m_streamLong m_at m_place m_orders false m_broken m_signBefore m_free m_waitsLong false m_screen m_stream m_waits) H := hP
      have hD : va_D A (wM hM hR hT hZ cI m_allRows m_allColumns m_rows m_columns m_cells m_cursor m_locked m_insert m_alarms m_rejects m_latest 0 m_streamLong m_at m_place m_orders false m_broken m_signBefore m_free m_waitsLong false m_screen m_stream m_waits) := hD
      refine lv_aload_n hx hb dX6_out_40 rfl (lv_at hl 2 rfl) ?_
      refine lv_iload_n hx hb dX6_out_41 rfl (lv_at hl 0 rfl) ?_
      obtain ⟨⟨m_rows_14, m_columns_14, m_cells_14, m_cursor_14, m_locked_14, m_alarms_14, m_rejects_14, m_at_14, m_place_14, m_orders_14, m_broken_14, m_signBefore_14, m_free_14, m_waitsLong_14, m_screen_14, m_waits_14⟩, hq_14, hf⟩ := ob_inv hf
      refine my_cVv (As := [.int (b2i m_cutOff)]) (rest := []) ⟨hx, hb, hml, hown, hts⟩ (c_X6_perform l dC dI cI hM hR hT hZ m_allRows m_allColumns m_rows m_columns m_cells m_cursor m_locked m_insert m_alarms m_rejects m_latest 0 m_streamLong m_at m_place m_orders false m_broken m_signBefore m_free m_waitsLong false m_screen m_stream m_waits _ m_cutOff (m_rows_14, m_columns_14, m_cells_14, m_cursor_14, m_locked_14, m_alarms_14, m_rejects_14, m_at_14, m_place_14, m_orders_14, m_broken_14, m_signBefore_14, m_free_14, m_waitsLong_14, m_screen_14, m_waits_14) hq_14) (cwV 1 hts gX6_out_X6_perform rfl rfl rfl (by decide +kernel) ⟨Nat.le_of_ble_eq_true rfl, Nat.le_of_ble_eq_true rfl⟩) hK hP hD hS hA 0 7 rfl rfl rfl hl.1 rfl (Nat.le_of_ble_eq_true rfl) dX6_out_42 ⟨Nat.zero_le _, Nat.zero_le _⟩ (fun _ H locs hP hD hS => ?_)
      have hP : va_P (dC, dI) vwCl (wM hM hR hT hZ cI m_allRows m_allColumns m_rows_14 m_columns_14 m_cells_14 m_cursor_14 m_locked_14 m_insert m_alarms_14 m_rejects_14 m_latest 0 m_streamLong m_at_14 m_place_14 m_orders_14 false m_broken_14 m_signBefore_14 m_free_14 m_waitsLong_14 false m_screen_14 m_stream m_waits_14) H := hP
      have hD : va_D A (wM hM hR hT hZ cI m_allRows m_allColumns m_rows_14 m_columns_14 m_cells_14 m_cursor_14 m_locked_14 m_insert m_alarms_14 m_rejects_14 m_latest 0 m_streamLong m_at_14 m_place_14 m_orders_14 false m_broken_14 m_signBefore_14 m_free_14 m_waitsLong_14 false m_screen_14 m_stream m_waits_14) := hD
      refine lv_aload_n hx hb dX6_out_45 rfl (lv_at hl 2 rfl) ?_
      refine lv_iconst (v := 0) hx hb dX6_out_46 (by decide) ?_
      refine va_put (D := (dC, dI)) (ci := 7) (v := .int 0) (C := RX6) (T := TX6) (N := 25) hx hb hts uu_X6_out_X6 tyX6 tyX6_ok nmX6 hown hK hP hD hS 0 rfl rfl 14 (by decide) (hts (.fieldLink RX6 79 "BlockScreenModel" "streamLong" "I") (List.mem_of_getElem? (i := 4) rfl)) (fun _ h9 => h9) rfl (tyX6_ok 14 (by decide)) rfl rfl (Nat.le_of_ble_eq_true rfl) dX6_out_47 (fun H locs hP hD hS => ?_)
      have hP : va_P (dC, dI) vwCl (wM hM hR hT hZ cI m_allRows m_allColumns m_rows_14 m_columns_14 m_cells_14 m_cursor_14 m_locked_14 m_insert m_alarms_14 m_rejects_14 m_latest 0 0 m_at_14 m_place_14 m_orders_14 false m_broken_14 m_signBefore_14 m_free_14 m_waitsLong_14 false m_screen_14 m_stream m_waits_14) H := hP
      have hD : va_D A (wM hM hR hT hZ cI m_allRows m_allColumns m_rows_14 m_columns_14 m_cells_14 m_cursor_14 m_locked_14 m_insert m_alarms_14 m_rejects_14 m_latest 0 0 m_at_14 m_place_14 m_orders_14 false m_broken_14 m_signBefore_14 m_free_14 m_waitsLong_14 false m_screen_14 m_stream m_waits_14) := hD
      refine lv_aload_n hx hb dX6_out_50 rfl (lv_at hl 2 rfl) ?_
      refine va_get (D := (dC, dI)) (ci := 7) (v := .int (b2i m_broken_14)) (C := RX6) (T := TX6) (N := 25) hx hb hts uu_X6_out_X6 hown hK hP 0 rfl rfl 19 (by decide) (hts (.fieldLink RX6 73 "BlockScreenModel" "broken" "Z") (List.mem_of_getElem? (i := 5) rfl)) (fun _ h9 => h9) rfl dX6_out_51 ?_
      refine lv_if_eq (tgt := 61) hx hb dX6_out_54 (by decide) (fun c_15 => ?_) (fun c_15 => ?_)
      · have hf := (if_pos c_15).symm.trans hf
        refine lv_iconst (v := 1) hx hb dX6_out_61 (by decide) ?_
        refine lv_aload_n hx hb dX6_out_62 rfl (lv_at hl 2 rfl) ?_
        refine va_get (D := (dC, dI)) (ci := 7) (v := .int m_orders_14) (C := RX6) (T := TX6) (N := 25) hx hb hts uu_X6_out_X6 hown hK hP 0 rfl rfl 17 (by decide) (hts (.fieldLink RX6 125 "BlockScreenModel" "orders" "I") (List.mem_of_getElem? (i := 6) rfl)) (fun _ h9 => h9) rfl dX6_out_63 ?_
        refine lv_iadd hx hb dX6_out_66 ?_
        have hf := Option.some.inj hf
        subst hf
        exact my_reti () hx hb hr hlocks hK hP hD hS rfl dX6_out_67
      · have hf := (if_neg c_15).symm.trans hf
        refine lv_iconst (v := (-1)) hx hb dX6_out_57 (by decide) ?_
        refine lv_goto (tgt := 67) hx hb dX6_out_58 (by decide) ?_
        have hf := Option.some.inj hf
        subst hf
        exact my_reti () hx hb hr hlocks hK hP hD hS rfl dX6_out_67

theorem uu_X6_shortly_X6 : ∀ w ∈ u_ws RX6 TX6 25, w ∈ wsX6_shortly := fun _ h => List.mem_cons_of_mem _ (List.mem_append_right _ h)
def f_X6_shortly (m_waitsLong : Int32) (m_waits : Nat → Int32) (a1 : Int32) : Option (Int32 × (Nat → Int32)) :=
    Option.bind (f_X6_send 0 m_waits a1) (fun (m_waitsLong_1, m_waits_1) =>
    Option.bind (f_X6_end m_waitsLong_1 m_waits_1) (fun (m_waitsLong_2, m_waits_2) =>
    some (m_waitsLong_2, m_waits_2)))
set_option maxHeartbeats 400000 in
set_option maxRecDepth 100000 in
theorem c_X6_shortly (l : Launch) (dC : Nat → ClassId) (dI : Nat → Nat → Nat) (cI : ClassId) (hM hR hT hZ : Nat) (m_allRows : Int32) (m_allColumns : Int32) (m_rows : Int32) (m_columns : Int32) (m_cells : Int32) (m_cursor : Int32) (m_locked : Bool) (m_insert : Bool) (m_alarms : Int32) (m_rejects : Int32) (m_latest : Int32) (m_thrown : Int32) (m_streamLong : Int32) (m_at : Int32) (m_place : Int32) (m_orders : Int32) (m_escaped : Bool) (m_broken : Bool) (m_signBefore : Bool) (m_free : Bool) (m_waitsLong : Int32) (m_cutOff : Bool) (m_screen : Nat → Int32) (m_stream : Nat → Int32) (m_waits : Nat → Int32) (sz : Nat) (a1 : Int32) (res : Int32 × (Nat → Int32)) (hf : f_X6_shortly m_waitsLong m_waits a1 = some res) : Met l yX6_shortly wsX6_shortly ({ frames := 1, cells := 0, slots := 0, locals := 21 }) (va_Pc [.ref hM, .int a1] (my_Pre (dC, dI) [(cI, .int)] (wM hM hR hT hZ cI m_allRows m_allColumns m_rows m_columns m_cells m_cursor m_locked m_insert m_alarms m_rejects m_latest m_thrown m_streamLong m_at m_place m_orders m_escaped m_broken m_signBefore m_free m_waitsLong m_cutOff m_screen m_stream m_waits) sz)) (my_Qv (S := Unit) (dC, dI) [(cI, .int)] (fun _ => wM hM hR hT hZ cI m_allRows m_allColumns m_rows m_columns m_cells m_cursor m_locked m_insert m_alarms m_rejects m_latest m_thrown m_streamLong m_at m_place m_orders m_escaped m_broken m_signBefore m_free res.1 m_cutOff m_screen m_stream res.2) (va_A (wM hM hR hT hZ cI m_allRows m_allColumns m_rows m_columns m_cells m_cursor m_locked m_insert m_alarms m_rejects m_latest m_thrown m_streamLong m_at m_place m_orders m_escaped m_broken m_signBefore m_free m_waitsLong m_cutOff m_screen m_stream m_waits) sz)) 0 0 (va_A (wM hM hR hT hZ cI m_allRows m_allColumns m_rows m_columns m_cells m_cursor m_locked m_insert m_alarms m_rejects m_latest m_thrown m_streamLong m_at m_place m_orders m_escaped m_broken m_signBefore m_free m_waitsLong m_cutOff m_screen m_stream m_waits) sz) := by
  refine my_enter (cc := cX6_shortly) (maxL := 2) (ret := none) (Qc := my_Qv (S := Unit) (dC, dI) [(cI, .int)] (fun _ => wM hM hR hT hZ cI m_allRows m_allColumns m_rows m_columns m_cells m_cursor m_locked m_insert m_alarms m_rejects m_latest m_thrown m_streamLong m_at m_place m_orders m_escaped m_broken m_signBefore m_free res.1 m_cutOff m_screen m_stream res.2)) (by decide) rfl (Nat.le_of_ble_eq_true rfl) ?_
  intro p e s m below meth c A ls hx hb hr hml hts hown hlocks hnm hP hK hD hA hS hl
  have hown : s.vm.findClass RX6 = some m.cls := hown
  have hl : lv_has ls 2 [(0, .ref hM), (1, .int a1)] := hl
  unfold f_X6_shortly at hf
  refine lv_aload_n hx hb dX6_shortly_0 rfl (lv_at hl 0 rfl) ?_
  refine lv_iconst (v := 0) hx hb dX6_shortly_1 (by decide) ?_
  refine va_put (D := (dC, dI)) (ci := 7) (v := .int 0) (C := RX6) (T := TX6) (N := 25) hx hb hts uu_X6_shortly_X6 tyX6 tyX6_ok nmX6 hown hK hP hD hS 0 rfl rfl 23 (by decide) (hts (.fieldLink RX6 137 "BlockScreenModel" "waitsLong" "I") (List.mem_of_getElem? (i := 1) rfl)) (fun _ h9 => h9) rfl (tyX6_ok 23 (by decide)) rfl rfl (Nat.le_of_ble_eq_true rfl) dX6_shortly_2 (fun H locs hP hD hS => ?_)
  have hP : va_P (dC, dI) vwCl (wM hM hR hT hZ cI m_allRows m_allColumns m_rows m_columns m_cells m_cursor m_locked m_insert m_alarms m_rejects m_latest m_thrown m_streamLong m_at m_place m_orders m_escaped m_broken m_signBefore m_free 0 m_cutOff m_screen m_stream m_waits) H := hP
  have hD : va_D A (wM hM hR hT hZ cI m_allRows m_allColumns m_rows m_columns m_cells m_cursor m_locked m_insert m_alarms m_rejects m_latest m_thrown m_streamLong m_at m_place m_orders m_escaped m_broken m_signBefore m_free 0 m_cutOff m_screen m_stream m_waits) := hD
  refine lv_aload_n hx hb dX6_shortly_5 rfl (lv_at hl 0 rfl) ?_
  refine lv_iload_n hx hb dX6_shortly_6 rfl (lv_at hl 1 rfl) ?_
  obtain ⟨⟨m_waitsLong_1, m_waits_1⟩, hq_1, hf⟩ := ob_inv hf
  refine my_cVv (As := [.int a1]) (rest := []) ⟨hx, hb, hml, hown, hts⟩ (c_X6_send l dC dI cI hM hR hT hZ m_allRows m_allColumns m_rows m_columns m_cells m_cursor m_locked m_insert m_alarms m_rejects m_latest m_thrown m_streamLong m_at m_place m_orders m_escaped m_broken m_signBefore m_free 0 m_cutOff m_screen m_stream m_waits _ a1 (m_waitsLong_1, m_waits_1) hq_1) (cwV 1 hts gX6_shortly_X6_send rfl rfl rfl (by decide +kernel) ⟨Nat.le_of_ble_eq_true rfl, Nat.le_of_ble_eq_true rfl⟩) hK hP hD hS hA 0 7 rfl rfl rfl hl.1 rfl (Nat.le_of_ble_eq_true rfl) dX6_shortly_7 ⟨Nat.zero_le _, Nat.zero_le _⟩ (fun _ H locs hP hD hS => ?_)
  have hP : va_P (dC, dI) vwCl (wM hM hR hT hZ cI m_allRows m_allColumns m_rows m_columns m_cells m_cursor m_locked m_insert m_alarms m_rejects m_latest m_thrown m_streamLong m_at m_place m_orders m_escaped m_broken m_signBefore m_free m_waitsLong_1 m_cutOff m_screen m_stream m_waits_1) H := hP
  have hD : va_D A (wM hM hR hT hZ cI m_allRows m_allColumns m_rows m_columns m_cells m_cursor m_locked m_insert m_alarms m_rejects m_latest m_thrown m_streamLong m_at m_place m_orders m_escaped m_broken m_signBefore m_free m_waitsLong_1 m_cutOff m_screen m_stream m_waits_1) := hD
  refine lv_aload_n hx hb dX6_shortly_10 rfl (lv_at hl 0 rfl) ?_
  obtain ⟨⟨m_waitsLong_2, m_waits_2⟩, hq_2, hf⟩ := ob_inv hf
  refine my_cVv (As := []) (rest := []) ⟨hx, hb, hml, hown, hts⟩ (c_X6_end l dC dI cI hM hR hT hZ m_allRows m_allColumns m_rows m_columns m_cells m_cursor m_locked m_insert m_alarms m_rejects m_latest m_thrown m_streamLong m_at m_place m_orders m_escaped m_broken m_signBefore m_free m_waitsLong_1 m_cutOff m_screen m_stream m_waits_1 _  (m_waitsLong_2, m_waits_2) hq_2) (cwV 0 hts gX6_shortly_X6_end rfl rfl rfl (by decide +kernel) ⟨Nat.le_of_ble_eq_true rfl, Nat.le_of_ble_eq_true rfl⟩) hK hP hD hS hA 0 7 rfl rfl rfl hl.1 rfl (Nat.le_of_ble_eq_true rfl) dX6_shortly_11 ⟨Nat.zero_le _, Nat.zero_le _⟩ (fun _ H locs hP hD hS => ?_)
  have hP : va_P (dC, dI) vwCl (wM hM hR hT hZ cI m_allRows m_allColumns m_rows m_columns m_cells m_cursor m_locked m_insert m_alarms m_rejects m_latest m_thrown m_streamLong m_at m_place m_orders m_escaped m_broken m_signBefore m_free m_waitsLong_2 m_cutOff m_screen m_stream m_waits_2) H := hP
  have hD : va_D A (wM hM hR hT hZ cI m_allRows m_allColumns m_rows m_columns m_cells m_cursor m_locked m_insert m_alarms m_rejects m_latest m_thrown m_streamLong m_at m_place m_orders m_escaped m_broken m_signBefore m_free m_waitsLong_2 m_cutOff m_screen m_stream m_waits_2) := hD
  have hf := Option.some.inj hf
  subst hf
  exact my_retv () hx hb hr hlocks hK hP hD hS dX6_shortly_14

theorem uu_X6_begins_X6 : ∀ w ∈ u_ws RX6 TX6 25, w ∈ wsX6_begins := fun _ h => List.mem_cons_of_mem _ (List.mem_append_right _ h)
def f_X6_begins (m_cells : Int32) (m_screen : Nat → Int32) (a1 : Int32) : Option (Bool) :=
    Option.bind (f_X6_isAttribute m_screen a1) (fun r_1 =>
    if (b2i r_1) = 0 then
    some false
    else
    if a1 < 0 ∨ 5676 ≤ a1.toNatClampNeg then none else
    if ((m_screen a1.toNatClampNeg) &&& 32) = 0 then
    Option.bind (f_X6_round m_cells (a1 + 1)) (fun r_5 =>
    Option.bind (f_X6_isAttribute m_screen r_5) (fun r_6 =>
    if (b2i r_6) = 0 then
    some true
    else
    some false))
    else
    some false)
set_option maxHeartbeats 400000 in
set_option maxRecDepth 100000 in
theorem c_X6_begins (l : Launch) (dC : Nat → ClassId) (dI : Nat → Nat → Nat) (cI : ClassId) (hM hR hT hZ : Nat) (m_allRows : Int32) (m_allColumns : Int32) (m_rows : Int32) (m_columns : Int32) (m_cells : Int32) (m_cursor : Int32) (m_locked : Bool) (m_insert : Bool) (m_alarms : Int32) (m_rejects : Int32) (m_latest : Int32) (m_thrown : Int32) (m_streamLong : Int32) (m_at : Int32) (m_place : Int32) (m_orders : Int32) (m_escaped : Bool) (m_broken : Bool) (m_signBefore : Bool) (m_free : Bool) (m_waitsLong : Int32) (m_cutOff : Bool) (m_screen : Nat → Int32) (m_stream : Nat → Int32) (m_waits : Nat → Int32) (sz : Nat) (a1 : Int32) (res : Bool) (hf : f_X6_begins m_cells m_screen a1 = some res) : Met l yX6_begins wsX6_begins ({ frames := 1, cells := 0, slots := 0, locals := 21 }) (va_Pc [.ref hM, .int a1] (my_Pre (dC, dI) [(cI, .int)] (wM hM hR hT hZ cI m_allRows m_allColumns m_rows m_columns m_cells m_cursor m_locked m_insert m_alarms m_rejects m_latest m_thrown m_streamLong m_at m_place m_orders m_escaped m_broken m_signBefore m_free m_waitsLong m_cutOff m_screen m_stream m_waits) sz)) (my_Qi (S := Unit) (dC, dI) [(cI, .int)] (b2i res) (fun _ => wM hM hR hT hZ cI m_allRows m_allColumns m_rows m_columns m_cells m_cursor m_locked m_insert m_alarms m_rejects m_latest m_thrown m_streamLong m_at m_place m_orders m_escaped m_broken m_signBefore m_free m_waitsLong m_cutOff m_screen m_stream m_waits) (va_A (wM hM hR hT hZ cI m_allRows m_allColumns m_rows m_columns m_cells m_cursor m_locked m_insert m_alarms m_rejects m_latest m_thrown m_streamLong m_at m_place m_orders m_escaped m_broken m_signBefore m_free m_waitsLong m_cutOff m_screen m_stream m_waits) sz)) 0 0 (va_A (wM hM hR hT hZ cI m_allRows m_allColumns m_rows m_columns m_cells m_cursor m_locked m_insert m_alarms m_rejects m_latest m_thrown m_streamLong m_at m_place m_orders m_escaped m_broken m_signBefore m_free m_waitsLong m_cutOff m_screen m_stream m_waits) sz) := by
  refine my_enter (cc := cX6_begins) (maxL := 2) (ret := (some .boolean)) (Qc := my_Qi (S := Unit) (dC, dI) [(cI, .int)] (b2i res) (fun _ => wM hM hR hT hZ cI m_allRows m_allColumns m_rows m_columns m_cells m_cursor m_locked m_insert m_alarms m_rejects m_latest m_thrown m_streamLong m_at m_place m_orders m_escaped m_broken m_signBefore m_free m_waitsLong m_cutOff m_screen m_stream m_waits)) (by decide) rfl (Nat.le_of_ble_eq_true rfl) ?_
  intro p e s m below meth c A ls hx hb hr hml hts hown hlocks hnm hP hK hD hA hS hl
  have hown : s.vm.findClass RX6 = some m.cls := hown
  have hl : lv_has ls 2 [(0, .ref hM), (1, .int a1)] := hl
  unfold f_X6_begins at hf
  refine lv_aload_n hx hb dX6_begins_0 rfl (lv_at hl 0 rfl) ?_
  refine lv_iload_n hx hb dX6_begins_1 rfl (lv_at hl 1 rfl) ?_
  obtain ⟨r_1, hq_1, hf⟩ := ob_inv hf
  refine my_cVi (As := [.int a1]) (rest := []) ⟨hx, hb, hml, hown, hts⟩ (c_X6_isAttribute l dC dI cI hM hR hT hZ m_allRows m_allColumns m_rows m_columns m_cells m_cursor m_locked m_insert m_alarms m_rejects m_latest m_thrown m_streamLong m_at m_place m_orders m_escaped m_broken m_signBefore m_free m_waitsLong m_cutOff m_screen m_stream m_waits _ a1 r_1 hq_1) (cwV 1 hts gX6_begins_X6_isAttribute rfl rfl rfl (by decide +kernel) ⟨Nat.le_of_ble_eq_true rfl, Nat.le_of_ble_eq_true rfl⟩) hK hP hD hS hA 0 7 rfl rfl rfl hl.1 rfl (Nat.le_of_ble_eq_true rfl) dX6_begins_2 ⟨Nat.zero_le _, Nat.zero_le _⟩ (fun _ H locs hP hD hS => ?_)
  have hP : va_P (dC, dI) vwCl (wM hM hR hT hZ cI m_allRows m_allColumns m_rows m_columns m_cells m_cursor m_locked m_insert m_alarms m_rejects m_latest m_thrown m_streamLong m_at m_place m_orders m_escaped m_broken m_signBefore m_free m_waitsLong m_cutOff m_screen m_stream m_waits) H := hP
  have hD : va_D A (wM hM hR hT hZ cI m_allRows m_allColumns m_rows m_columns m_cells m_cursor m_locked m_insert m_alarms m_rejects m_latest m_thrown m_streamLong m_at m_place m_orders m_escaped m_broken m_signBefore m_free m_waitsLong m_cutOff m_screen m_stream m_waits) := hD
  refine lv_if_eq (tgt := 38) hx hb dX6_begins_5 (by decide) (fun c_2 => ?_) (fun c_2 => ?_)
  · have hf := (if_pos c_2).symm.trans hf
    refine lv_iconst (v := 0) hx hb dX6_begins_38 (by decide) ?_
    have hf := Option.some.inj hf
    subst hf
    exact my_retz () hx hb hr hlocks rfl hK hP hD hS rfl dX6_begins_39
  · have hf := (if_neg c_2).symm.trans hf
    refine lv_aload_n hx hb dX6_begins_8 rfl (lv_at hl 0 rfl) ?_
    refine va_get (D := (dC, dI)) (ci := 7) (v := .ref hR) (C := RX6) (T := TX6) (N := 25) hx hb hts uu_X6_begins_X6 hown hK hP 0 rfl rfl 6 (by decide) (hts (.fieldLink RX6 7 "BlockScreenModel" "screen" "[I") (List.mem_of_getElem? (i := 1) rfl)) (fun _ h9 => h9) rfl dX6_begins_9 ?_
    refine lv_iload_n hx hb dX6_begins_12 rfl (lv_at hl 1 rfl) ?_
    rcases Classical.em (a1 < 0 ∨ 5676 ≤ a1.toNatClampNeg) with c_3 | c_3
    · exact nn_abs ((if_pos c_3).symm.trans hf)
    have hf := (if_neg c_3).symm.trans hf
    refine va_iald hx hb hK hP 1 0 rfl rfl c_3 dX6_begins_13 ?_
    refine lv_bipush (v := 32) hx hb dX6_begins_14 (by decide) ?_
    refine lv_iand hx hb dX6_begins_16 ?_
    refine lv_if_ne (tgt := 38) hx hb dX6_begins_17 (by decide) (fun c_4 => ?_) (fun c_4 => ?_)
    · have hf := (if_neg c_4).symm.trans hf
      refine lv_iconst (v := 0) hx hb dX6_begins_38 (by decide) ?_
      have hf := Option.some.inj hf
      subst hf
      exact my_retz () hx hb hr hlocks rfl hK hP hD hS rfl dX6_begins_39
    · have hf := (if_pos c_4).symm.trans hf
      refine lv_aload_n hx hb dX6_begins_20 rfl (lv_at hl 0 rfl) ?_
      refine lv_aload_n hx hb dX6_begins_21 rfl (lv_at hl 0 rfl) ?_
      refine lv_iload_n hx hb dX6_begins_22 rfl (lv_at hl 1 rfl) ?_
      refine lv_iconst (v := 1) hx hb dX6_begins_23 (by decide) ?_
      refine lv_iadd hx hb dX6_begins_24 ?_
      obtain ⟨r_5, hq_5, hf⟩ := ob_inv hf
      refine my_cVi (As := [.int (a1 + 1)]) (rest := [.ref hM]) ⟨hx, hb, hml, hown, hts⟩ (c_X6_round l dC dI cI hM hR hT hZ m_allRows m_allColumns m_rows m_columns m_cells m_cursor m_locked m_insert m_alarms m_rejects m_latest m_thrown m_streamLong m_at m_place m_orders m_escaped m_broken m_signBefore m_free m_waitsLong m_cutOff m_screen m_stream m_waits _ (a1 + 1) r_5 hq_5) (cwV 1 hts gX6_begins_X6_round rfl rfl rfl (by decide +kernel) ⟨Nat.le_of_ble_eq_true rfl, Nat.le_of_ble_eq_true rfl⟩) hK hP hD hS hA 0 7 rfl rfl rfl hl.1 rfl (Nat.le_of_ble_eq_true rfl) dX6_begins_25 ⟨Nat.zero_le _, Nat.zero_le _⟩ (fun _ H locs hP hD hS => ?_)
      have hP : va_P (dC, dI) vwCl (wM hM hR hT hZ cI m_allRows m_allColumns m_rows m_columns m_cells m_cursor m_locked m_insert m_alarms m_rejects m_latest m_thrown m_streamLong m_at m_place m_orders m_escaped m_broken m_signBefore m_free m_waitsLong m_cutOff m_screen m_stream m_waits) H := hP
      have hD : va_D A (wM hM hR hT hZ cI m_allRows m_allColumns m_rows m_columns m_cells m_cursor m_locked m_insert m_alarms m_rejects m_latest m_thrown m_streamLong m_at m_place m_orders m_escaped m_broken m_signBefore m_free m_waitsLong m_cutOff m_screen m_stream m_waits) := hD
      obtain ⟨r_6, hq_6, hf⟩ := ob_inv hf
      refine my_cVi (As := [.int r_5]) (rest := []) ⟨hx, hb, hml, hown, hts⟩ (c_X6_isAttribute l dC dI cI hM hR hT hZ m_allRows m_allColumns m_rows m_columns m_cells m_cursor m_locked m_insert m_alarms m_rejects m_latest m_thrown m_streamLong m_at m_place m_orders m_escaped m_broken m_signBefore m_free m_waitsLong m_cutOff m_screen m_stream m_waits _ r_5 r_6 hq_6) (cwV 1 hts gX6_begins_X6_isAttribute rfl rfl rfl (by decide +kernel) ⟨Nat.le_of_ble_eq_true rfl, Nat.le_of_ble_eq_true rfl⟩) hK hP hD hS hA 0 7 rfl rfl rfl hl.1 rfl (Nat.le_of_ble_eq_true rfl) dX6_begins_28 ⟨Nat.zero_le _, Nat.zero_le _⟩ (fun _ H locs hP hD hS => ?_)
      have hP : va_P (dC, dI) vwCl (wM hM hR hT hZ cI m_allRows m_allColumns m_rows m_columns m_cells m_cursor m_locked m_insert m_alarms m_rejects m_latest m_thrown m_streamLong m_at m_place m_orders m_escaped m_broken m_signBefore m_free m_waitsLong m_cutOff m_screen m_stream m_waits) H := hP
      have hD : va_D A (wM hM hR hT hZ cI m_allRows m_allColumns m_rows m_columns m_cells m_cursor m_locked m_insert m_alarms m_rejects m_latest m_thrown m_streamLong m_at m_place m_orders m_escaped m_broken m_signBefore m_free m_waitsLong m_cutOff m_screen m_stream m_waits) := hD
      refine lv_if_ne (tgt := 38) hx hb dX6_begins_31 (by decide) (fun c_7 => ?_) (fun c_7 => ?_)
      · have hf := (if_neg c_7).symm.trans hf
        refine lv_iconst (v := 0) hx hb dX6_begins_38 (by decide) ?_
        have hf := Option.some.inj hf
        subst hf
        exact my_retz () hx hb hr hlocks rfl hK hP hD hS rfl dX6_begins_39
      · have hf := (if_pos c_7).symm.trans hf
        refine lv_iconst (v := 1) hx hb dX6_begins_34 (by decide) ?_
        refine lv_goto (tgt := 39) hx hb dX6_begins_35 (by decide) ?_
        have hf := Option.some.inj hf
        subst hf
        exact my_retz () hx hb hr hlocks rfl hK hP hD hS rfl dX6_begins_39

theorem uu_X6_tab_X6 : ∀ w ∈ u_ws RX6 TX6 25, w ∈ wsX6_tab := fun _ h => List.mem_cons_of_mem _ (List.mem_append_right _ h)
def f_X6_tab_L2 (m_cells : Int32) (m_screen : Nat → Int32) : Nat → Int32 → Int32 → Option (Int32)
  | 0, _, _ => none
  | fu + 1, v1, v2 =>
    if m_cells ≤ v2 then
    some 0
    else
    Option.bind (f_X6_round m_cells (v1 + v2)) (fun r_2 =>
    Option.bind (f_X6_begins m_cells m_screen r_2) (fun r_3 =>
    if (b2i r_3) = 0 then
    f_X6_tab_L2 m_cells m_screen fu v1 (v2 + 1)
    else
    Option.bind (f_X6_round m_cells ((v1 + v2) + 1)) (fun r_5 =>
    some r_5)))
def f_X6_tab (m_cells : Int32) (m_screen : Nat → Int32) (a1 : Int32) : Option (Int32) :=
    f_X6_tab_L2 m_cells m_screen FU a1 0
set_option maxHeartbeats 400000 in
set_option maxRecDepth 100000 in
theorem c_X6_tab (l : Launch) (dC : Nat → ClassId) (dI : Nat → Nat → Nat) (cI : ClassId) (hM hR hT hZ : Nat) (m_allRows : Int32) (m_allColumns : Int32) (m_rows : Int32) (m_columns : Int32) (m_cells : Int32) (m_cursor : Int32) (m_locked : Bool) (m_insert : Bool) (m_alarms : Int32) (m_rejects : Int32) (m_latest : Int32) (m_thrown : Int32) (m_streamLong : Int32) (m_at : Int32) (m_place : Int32) (m_orders : Int32) (m_escaped : Bool) (m_broken : Bool) (m_signBefore : Bool) (m_free : Bool) (m_waitsLong : Int32) (m_cutOff : Bool) (m_screen : Nat → Int32) (m_stream : Nat → Int32) (m_waits : Nat → Int32) (sz : Nat) (a1 : Int32) (res : Int32) (hf : f_X6_tab m_cells m_screen a1 = some res) : Met l yX6_tab wsX6_tab ({ frames := 2, cells := 0, slots := 0, locals := 42 }) (va_Pc [.ref hM, .int a1] (my_Pre (dC, dI) [(cI, .int)] (wM hM hR hT hZ cI m_allRows m_allColumns m_rows m_columns m_cells m_cursor m_locked m_insert m_alarms m_rejects m_latest m_thrown m_streamLong m_at m_place m_orders m_escaped m_broken m_signBefore m_free m_waitsLong m_cutOff m_screen m_stream m_waits) sz)) (my_Qi (S := Unit) (dC, dI) [(cI, .int)] res (fun _ => wM hM hR hT hZ cI m_allRows m_allColumns m_rows m_columns m_cells m_cursor m_locked m_insert m_alarms m_rejects m_latest m_thrown m_streamLong m_at m_place m_orders m_escaped m_broken m_signBefore m_free m_waitsLong m_cutOff m_screen m_stream m_waits) (va_A (wM hM hR hT hZ cI m_allRows m_allColumns m_rows m_columns m_cells m_cursor m_locked m_insert m_alarms m_rejects m_latest m_thrown m_streamLong m_at m_place m_orders m_escaped m_broken m_signBefore m_free m_waitsLong m_cutOff m_screen m_stream m_waits) sz)) 0 0 (va_A (wM hM hR hT hZ cI m_allRows m_allColumns m_rows m_columns m_cells m_cursor m_locked m_insert m_alarms m_rejects m_latest m_thrown m_streamLong m_at m_place m_orders m_escaped m_broken m_signBefore m_free m_waitsLong m_cutOff m_screen m_stream m_waits) sz) := by
  refine my_enter (cc := cX6_tab) (maxL := 3) (ret := (some .int)) (Qc := my_Qi (S := Unit) (dC, dI) [(cI, .int)] res (fun _ => wM hM hR hT hZ cI m_allRows m_allColumns m_rows m_columns m_cells m_cursor m_locked m_insert m_alarms m_rejects m_latest m_thrown m_streamLong m_at m_place m_orders m_escaped m_broken m_signBefore m_free m_waitsLong m_cutOff m_screen m_stream m_waits)) (by decide) rfl (Nat.le_of_ble_eq_true rfl) ?_
  intro p e s m below meth c A ls hx hb hr hml hts hown hlocks hnm hP hK hD hA hS hl
  have hown : s.vm.findClass RX6 = some m.cls := hown
  have hl : lv_has ls 3 [(0, .ref hM), (1, .int a1)] := hl
  have L2 : ∀ (fu : Nat) (v1 : Int32) (v2 : Int32)   (H : Heap) (locs : List Loc), f_X6_tab_L2 m_cells m_screen fu v1 v2 = some res → va_P (dC, dI) vwCl (wM hM hR hT hZ cI m_allRows m_allColumns m_rows m_columns m_cells m_cursor m_locked m_insert m_alarms m_rejects m_latest m_thrown m_streamLong m_at m_place m_orders m_escaped m_broken m_signBefore m_free m_waitsLong m_cutOff m_screen m_stream m_waits) H → va_D A (wM hM hR hT hZ cI m_allRows m_allColumns m_rows m_columns m_cells m_cursor m_locked m_insert m_alarms m_rejects m_latest m_thrown m_streamLong m_at m_place m_orders m_escaped m_broken m_signBefore m_free m_waitsLong m_cutOff m_screen m_stream m_waits) → va_S A s.heap H locs → ∀ (ls : Array Slot), lv_has ls 3 [(0, .ref hM), (1, .int v1), (2, .int v2)] → W p l e (headSpec wsX6_tab ({ frames := 2, cells := 0, slots := 0, locals := 42 })).room s m ([.ref hM, .int a1] : List Value).toArray below meth c H locs 0 0 (MQ below (my_Qi (S := Unit) (dC, dI) [(cI, .int)] res (fun _ => wM hM hR hT hZ cI m_allRows m_allColumns m_rows m_columns m_cells m_cursor m_locked m_insert m_alarms m_rejects m_latest m_thrown m_streamLong m_at m_place m_orders m_escaped m_broken m_signBefore m_free m_waitsLong m_cutOff m_screen m_stream m_waits) A) ([.ref hM, .int a1] : List Value).toArray s 0 0 A) (F0 m 2 ls []) := by
    intro fu
    induction fu with
    | zero =>
      intro v1 v2 H locs hf
      rw [f_X6_tab_L2.eq_1] at hf
      cases hf
    | succ fu ih =>
      intro v1 v2 H locs hf  hP hD hS ls hl
      rw [f_X6_tab_L2.eq_2] at hf
      refine lv_iload_n hx hb dX6_tab_2 rfl (lv_at hl 2 rfl) ?_
      refine lv_aload_n hx hb dX6_tab_3 rfl (lv_at hl 0 rfl) ?_
      refine va_get (D := (dC, dI)) (ci := 7) (v := .int m_cells) (C := RX6) (T := TX6) (N := 25) hx hb hts uu_X6_tab_X6 hown hK hP 0 rfl rfl 4 (by decide) (hts (.fieldLink RX6 46 "BlockScreenModel" "cells" "I") (List.mem_of_getElem? (i := 1) rfl)) (fun _ h9 => h9) rfl dX6_tab_4 ?_
      refine lv_icmp_ge (tgt := 40) hx hb dX6_tab_7 (by decide) (fun c_1 => ?_) (fun c_1 => ?_)
      · have hf := (if_pos c_1).symm.trans hf
        refine lv_iconst (v := 0) hx hb dX6_tab_40 (by decide) ?_
        have hf := Option.some.inj hf
        subst hf
        exact my_reti () hx hb hr hlocks hK hP hD hS rfl dX6_tab_41
      · have hf := (if_neg c_1).symm.trans hf
        refine lv_aload_n hx hb dX6_tab_10 rfl (lv_at hl 0 rfl) ?_
        refine lv_aload_n hx hb dX6_tab_11 rfl (lv_at hl 0 rfl) ?_
        refine lv_iload_n hx hb dX6_tab_12 rfl (lv_at hl 1 rfl) ?_
        refine lv_iload_n hx hb dX6_tab_13 rfl (lv_at hl 2 rfl) ?_
        refine lv_iadd hx hb dX6_tab_14 ?_
        obtain ⟨r_2, hq_2, hf⟩ := ob_inv hf
        refine my_cVi (As := [.int (v1 + v2)]) (rest := [.ref hM]) ⟨hx, hb, hml, hown, hts⟩ (c_X6_round l dC dI cI hM hR hT hZ m_allRows m_allColumns m_rows m_columns m_cells m_cursor m_locked m_insert m_alarms m_rejects m_latest m_thrown m_streamLong m_at m_place m_orders m_escaped m_broken m_signBefore m_free m_waitsLong m_cutOff m_screen m_stream m_waits _ (v1 + v2) r_2 hq_2) (cwV 1 hts gX6_tab_X6_round rfl rfl rfl (by decide +kernel) ⟨Nat.le_of_ble_eq_true rfl, Nat.le_of_ble_eq_true rfl⟩) hK hP hD hS hA 0 7 rfl rfl rfl hl.1 rfl (Nat.le_of_ble_eq_true rfl) dX6_tab_15 ⟨Nat.zero_le _, Nat.zero_le _⟩ (fun _ H locs hP hD hS => ?_)
        have hP : va_P (dC, dI) vwCl (wM hM hR hT hZ cI m_allRows m_allColumns m_rows m_columns m_cells m_cursor m_locked m_insert m_alarms m_rejects m_latest m_thrown m_streamLong m_at m_place m_orders m_escaped m_broken m_signBefore m_free m_waitsLong m_cutOff m_screen m_stream m_waits) H := hP
        have hD : va_D A (wM hM hR hT hZ cI m_allRows m_allColumns m_rows m_columns m_cells m_cursor m_locked m_insert m_alarms m_rejects m_latest m_thrown m_streamLong m_at m_place m_orders m_escaped m_broken m_signBefore m_free m_waitsLong m_cutOff m_screen m_stream m_waits) := hD
        obtain ⟨r_3, hq_3, hf⟩ := ob_inv hf
        refine my_cVi (As := [.int r_2]) (rest := []) ⟨hx, hb, hml, hown, hts⟩ (c_X6_begins l dC dI cI hM hR hT hZ m_allRows m_allColumns m_rows m_columns m_cells m_cursor m_locked m_insert m_alarms m_rejects m_latest m_thrown m_streamLong m_at m_place m_orders m_escaped m_broken m_signBefore m_free m_waitsLong m_cutOff m_screen m_stream m_waits _ r_2 r_3 hq_3) (cwV 1 hts gX6_tab_X6_begins rfl rfl rfl (by decide +kernel) ⟨Nat.le_of_ble_eq_true rfl, Nat.le_of_ble_eq_true rfl⟩) hK hP hD hS hA 0 7 rfl rfl rfl hl.1 rfl (Nat.le_of_ble_eq_true rfl) dX6_tab_18 ⟨Nat.zero_le _, Nat.zero_le _⟩ (fun _ H locs hP hD hS => ?_)
        have hP : va_P (dC, dI) vwCl (wM hM hR hT hZ cI m_allRows m_allColumns m_rows m_columns m_cells m_cursor m_locked m_insert m_alarms m_rejects m_latest m_thrown m_streamLong m_at m_place m_orders m_escaped m_broken m_signBefore m_free m_waitsLong m_cutOff m_screen m_stream m_waits) H := hP
        have hD : va_D A (wM hM hR hT hZ cI m_allRows m_allColumns m_rows m_columns m_cells m_cursor m_locked m_insert m_alarms m_rejects m_latest m_thrown m_streamLong m_at m_place m_orders m_escaped m_broken m_signBefore m_free m_waitsLong m_cutOff m_screen m_stream m_waits) := hD
        refine lv_if_eq (tgt := 34) hx hb dX6_tab_21 (by decide) (fun c_4 => ?_) (fun c_4 => ?_)
        · have hf := (if_pos c_4).symm.trans hf
          refine lv_iinc (v := v2 + 1) (lv' := [(2, .int (v2 + 1)), (0, .ref hM), (1, .int v1)]) hx hb dX6_tab_34 hl (k := 2) rfl rfl (by decide) rfl (fun ls hl => ?_)
          refine lv_goto (tgt := 2) hx hb dX6_tab_37 (by decide) ?_
          exact ih v1 (v2 + 1) _ _ hf  hP hD hS ls (lv_sub hl [1, 2, 0] rfl)
        · have hf := (if_neg c_4).symm.trans hf
          refine lv_aload_n hx hb dX6_tab_24 rfl (lv_at hl 0 rfl) ?_
          refine lv_iload_n hx hb dX6_tab_25 rfl (lv_at hl 1 rfl) ?_
          refine lv_iload_n hx hb dX6_tab_26 rfl (lv_at hl 2 rfl) ?_
          refine lv_iadd hx hb dX6_tab_27 ?_
          refine lv_iconst (v := 1) hx hb dX6_tab_28 (by decide) ?_
          refine lv_iadd hx hb dX6_tab_29 ?_
          obtain ⟨r_5, hq_5, hf⟩ := ob_inv hf
          refine my_cVi (As := [.int ((v1 + v2) + 1)]) (rest := []) ⟨hx, hb, hml, hown, hts⟩ (c_X6_round l dC dI cI hM hR hT hZ m_allRows m_allColumns m_rows m_columns m_cells m_cursor m_locked m_insert m_alarms m_rejects m_latest m_thrown m_streamLong m_at m_place m_orders m_escaped m_broken m_signBefore m_free m_waitsLong m_cutOff m_screen m_stream m_waits _ ((v1 + v2) + 1) r_5 hq_5) (cwV 1 hts gX6_tab_X6_round rfl rfl rfl (by decide +kernel) ⟨Nat.le_of_ble_eq_true rfl, Nat.le_of_ble_eq_true rfl⟩) hK hP hD hS hA 0 7 rfl rfl rfl hl.1 rfl (Nat.le_of_ble_eq_true rfl) dX6_tab_30 ⟨Nat.zero_le _, Nat.zero_le _⟩ (fun _ H locs hP hD hS => ?_)
          have hP : va_P (dC, dI) vwCl (wM hM hR hT hZ cI m_allRows m_allColumns m_rows m_columns m_cells m_cursor m_locked m_insert m_alarms m_rejects m_latest m_thrown m_streamLong m_at m_place m_orders m_escaped m_broken m_signBefore m_free m_waitsLong m_cutOff m_screen m_stream m_waits) H := hP
          have hD : va_D A (wM hM hR hT hZ cI m_allRows m_allColumns m_rows m_columns m_cells m_cursor m_locked m_insert m_alarms m_rejects m_latest m_thrown m_streamLong m_at m_place m_orders m_escaped m_broken m_signBefore m_free m_waitsLong m_cutOff m_screen m_stream m_waits) := hD
          have hf := Option.some.inj hf
          subst hf
          exact my_reti () hx hb hr hlocks hK hP hD hS rfl dX6_tab_33
  unfold f_X6_tab at hf
  refine lv_iconst (v := 0) hx hb dX6_tab_0 (by decide) ?_
  refine lv_istore_n (lv' := [(2, .int 0), (0, .ref hM), (1, .int a1)]) hx hb dX6_tab_1 rfl hl (by decide) rfl (fun ls hl => ?_)
  exact L2 FU a1 0 _ _ hf  hP hD hS ls (lv_sub hl [1, 2, 0] rfl)

theorem uu_X6_tabBack_X6 : ∀ w ∈ u_ws RX6 TX6 25, w ∈ wsX6_tabBack := fun _ h => List.mem_cons_of_mem _ (List.mem_append_right _ h)
def f_X6_tabBack_L2 (m_cells : Int32) (m_cursor : Int32) (m_screen : Nat → Int32) : Nat → Int32 → Option (Int32)
  | 0, _ => none
  | fu + 1, v1 =>
    if m_cells < v1 then
    some 0
    else
    Option.bind (f_X6_round m_cells ((m_cursor - v1) - 1)) (fun r_2 =>
    Option.bind (f_X6_begins m_cells m_screen r_2) (fun r_3 =>
    if (b2i r_3) = 0 then
    f_X6_tabBack_L2 m_cells m_cursor m_screen fu (v1 + 1)
    else
    Option.bind (f_X6_round m_cells (m_cursor - v1)) (fun r_5 =>
    some r_5)))
def f_X6_tabBack (m_cells : Int32) (m_cursor : Int32) (m_screen : Nat → Int32) : Option (Int32) :=
    f_X6_tabBack_L2 m_cells m_cursor m_screen FU 1
set_option maxHeartbeats 400000 in
set_option maxRecDepth 100000 in
theorem c_X6_tabBack (l : Launch) (dC : Nat → ClassId) (dI : Nat → Nat → Nat) (cI : ClassId) (hM hR hT hZ : Nat) (m_allRows : Int32) (m_allColumns : Int32) (m_rows : Int32) (m_columns : Int32) (m_cells : Int32) (m_cursor : Int32) (m_locked : Bool) (m_insert : Bool) (m_alarms : Int32) (m_rejects : Int32) (m_latest : Int32) (m_thrown : Int32) (m_streamLong : Int32) (m_at : Int32) (m_place : Int32) (m_orders : Int32) (m_escaped : Bool) (m_broken : Bool) (m_signBefore : Bool) (m_free : Bool) (m_waitsLong : Int32) (m_cutOff : Bool) (m_screen : Nat → Int32) (m_stream : Nat → Int32) (m_waits : Nat → Int32) (sz : Nat)  (res : Int32) (hf : f_X6_tabBack m_cells m_cursor m_screen = some res) : Met l yX6_tabBack wsX6_tabBack ({ frames := 2, cells := 0, slots := 0, locals := 42 }) (va_Pc [.ref hM] (my_Pre (dC, dI) [(cI, .int)] (wM hM hR hT hZ cI m_allRows m_allColumns m_rows m_columns m_cells m_cursor m_locked m_insert m_alarms m_rejects m_latest m_thrown m_streamLong m_at m_place m_orders m_escaped m_broken m_signBefore m_free m_waitsLong m_cutOff m_screen m_stream m_waits) sz)) (my_Qi (S := Unit) (dC, dI) [(cI, .int)] res (fun _ => wM hM hR hT hZ cI m_allRows m_allColumns m_rows m_columns m_cells m_cursor m_locked m_insert m_alarms m_rejects m_latest m_thrown m_streamLong m_at m_place m_orders m_escaped m_broken m_signBefore m_free m_waitsLong m_cutOff m_screen m_stream m_waits) (va_A (wM hM hR hT hZ cI m_allRows m_allColumns m_rows m_columns m_cells m_cursor m_locked m_insert m_alarms m_rejects m_latest m_thrown m_streamLong m_at m_place m_orders m_escaped m_broken m_signBefore m_free m_waitsLong m_cutOff m_screen m_stream m_waits) sz)) 0 0 (va_A (wM hM hR hT hZ cI m_allRows m_allColumns m_rows m_columns m_cells m_cursor m_locked m_insert m_alarms m_rejects m_latest m_thrown m_streamLong m_at m_place m_orders m_escaped m_broken m_signBefore m_free m_waitsLong m_cutOff m_screen m_stream m_waits) sz) := by
  refine my_enter (cc := cX6_tabBack) (maxL := 2) (ret := (some .int)) (Qc := my_Qi (S := Unit) (dC, dI) [(cI, .int)] res (fun _ => wM hM hR hT hZ cI m_allRows m_allColumns m_rows m_columns m_cells m_cursor m_locked m_insert m_alarms m_rejects m_latest m_thrown m_streamLong m_at m_place m_orders m_escaped m_broken m_signBefore m_free m_waitsLong m_cutOff m_screen m_stream m_waits)) (by decide) rfl (Nat.le_of_ble_eq_true rfl) ?_
  intro p e s m below meth c A ls hx hb hr hml hts hown hlocks hnm hP hK hD hA hS hl
  have hown : s.vm.findClass RX6 = some m.cls := hown
  have hl : lv_has ls 2 [(0, .ref hM)] := hl
  have L2 : ∀ (fu : Nat) (v1 : Int32)   (H : Heap) (locs : List Loc), f_X6_tabBack_L2 m_cells m_cursor m_screen fu v1 = some res → va_P (dC, dI) vwCl (wM hM hR hT hZ cI m_allRows m_allColumns m_rows m_columns m_cells m_cursor m_locked m_insert m_alarms m_rejects m_latest m_thrown m_streamLong m_at m_place m_orders m_escaped m_broken m_signBefore m_free m_waitsLong m_cutOff m_screen m_stream m_waits) H → va_D A (wM hM hR hT hZ cI m_allRows m_allColumns m_rows m_columns m_cells m_cursor m_locked m_insert m_alarms m_rejects m_latest m_thrown m_streamLong m_at m_place m_orders m_escaped m_broken m_signBefore m_free m_waitsLong m_cutOff m_screen m_stream m_waits) → va_S A s.heap H locs → ∀ (ls : Array Slot), lv_has ls 2 [(0, .ref hM), (1, .int v1)] → W p l e (headSpec wsX6_tabBack ({ frames := 2, cells := 0, slots := 0, locals := 42 })).room s m ([.ref hM] : List Value).toArray below meth c H locs 0 0 (MQ below (my_Qi (S := Unit) (dC, dI) [(cI, .int)] res (fun _ => wM hM hR hT hZ cI m_allRows m_allColumns m_rows m_columns m_cells m_cursor m_locked m_insert m_alarms m_rejects m_latest m_thrown m_streamLong m_at m_place m_orders m_escaped m_broken m_signBefore m_free m_waitsLong m_cutOff m_screen m_stream m_waits) A) ([.ref hM] : List Value).toArray s 0 0 A) (F0 m 2 ls []) := by
    intro fu
    induction fu with
    | zero =>
      intro v1 H locs hf
      rw [f_X6_tabBack_L2.eq_1] at hf
      cases hf
    | succ fu ih =>
      intro v1 H locs hf  hP hD hS ls hl
      rw [f_X6_tabBack_L2.eq_2] at hf
      refine lv_iload_n hx hb dX6_tabBack_2 rfl (lv_at hl 1 rfl) ?_
      refine lv_aload_n hx hb dX6_tabBack_3 rfl (lv_at hl 0 rfl) ?_
      refine va_get (D := (dC, dI)) (ci := 7) (v := .int m_cells) (C := RX6) (T := TX6) (N := 25) hx hb hts uu_X6_tabBack_X6 hown hK hP 0 rfl rfl 4 (by decide) (hts (.fieldLink RX6 46 "BlockScreenModel" "cells" "I") (List.mem_of_getElem? (i := 1) rfl)) (fun _ h9 => h9) rfl dX6_tabBack_4 ?_
      refine lv_icmp_gt (tgt := 46) hx hb dX6_tabBack_7 (by decide) (fun c_1 => ?_) (fun c_1 => ?_)
      · have hf := (if_pos c_1).symm.trans hf
        refine lv_iconst (v := 0) hx hb dX6_tabBack_46 (by decide) ?_
        have hf := Option.some.inj hf
        subst hf
        exact my_reti () hx hb hr hlocks hK hP hD hS rfl dX6_tabBack_47
      · have hf := (if_neg c_1).symm.trans hf
        refine lv_aload_n hx hb dX6_tabBack_10 rfl (lv_at hl 0 rfl) ?_
        refine lv_aload_n hx hb dX6_tabBack_11 rfl (lv_at hl 0 rfl) ?_
        refine lv_aload_n hx hb dX6_tabBack_12 rfl (lv_at hl 0 rfl) ?_
        refine va_get (D := (dC, dI)) (ci := 7) (v := .int m_cursor) (C := RX6) (T := TX6) (N := 25) hx hb hts uu_X6_tabBack_X6 hown hK hP 0 rfl rfl 5 (by decide) (hts (.fieldLink RX6 49 "BlockScreenModel" "cursor" "I") (List.mem_of_getElem? (i := 2) rfl)) (fun _ h9 => h9) rfl dX6_tabBack_13 ?_
        refine lv_iload_n hx hb dX6_tabBack_16 rfl (lv_at hl 1 rfl) ?_
        refine lv_isub hx hb dX6_tabBack_17 ?_
        refine lv_iconst (v := 1) hx hb dX6_tabBack_18 (by decide) ?_
        refine lv_isub hx hb dX6_tabBack_19 ?_
        obtain ⟨r_2, hq_2, hf⟩ := ob_inv hf
        refine my_cVi (As := [.int ((m_cursor - v1) - 1)]) (rest := [.ref hM]) ⟨hx, hb, hml, hown, hts⟩ (c_X6_round l dC dI cI hM hR hT hZ m_allRows m_allColumns m_rows m_columns m_cells m_cursor m_locked m_insert m_alarms m_rejects m_latest m_thrown m_streamLong m_at m_place m_orders m_escaped m_broken m_signBefore m_free m_waitsLong m_cutOff m_screen m_stream m_waits _ ((m_cursor - v1) - 1) r_2 hq_2) (cwV 1 hts gX6_tabBack_X6_round rfl rfl rfl (by decide +kernel) ⟨Nat.le_of_ble_eq_true rfl, Nat.le_of_ble_eq_true rfl⟩) hK hP hD hS hA 0 7 rfl rfl rfl hl.1 rfl (Nat.le_of_ble_eq_true rfl) dX6_tabBack_20 ⟨Nat.zero_le _, Nat.zero_le _⟩ (fun _ H locs hP hD hS => ?_)
        have hP : va_P (dC, dI) vwCl (wM hM hR hT hZ cI m_allRows m_allColumns m_rows m_columns m_cells m_cursor m_locked m_insert m_alarms m_rejects m_latest m_thrown m_streamLong m_at m_place m_orders m_escaped m_broken m_signBefore m_free m_waitsLong m_cutOff m_screen m_stream m_waits) H := hP
        have hD : va_D A (wM hM hR hT hZ cI m_allRows m_allColumns m_rows m_columns m_cells m_cursor m_locked m_insert m_alarms m_rejects m_latest m_thrown m_streamLong m_at m_place m_orders m_escaped m_broken m_signBefore m_free m_waitsLong m_cutOff m_screen m_stream m_waits) := hD
        obtain ⟨r_3, hq_3, hf⟩ := ob_inv hf
        refine my_cVi (As := [.int r_2]) (rest := []) ⟨hx, hb, hml, hown, hts⟩ (c_X6_begins l dC dI cI hM hR hT hZ m_allRows m_allColumns m_rows m_columns m_cells m_cursor m_locked m_insert m_alarms m_rejects m_latest m_thrown m_streamLong m_at m_place m_orders m_escaped m_broken m_signBefore m_free m_waitsLong m_cutOff m_screen m_stream m_waits _ r_2 r_3 hq_3) (cwV 1 hts gX6_tabBack_X6_begins rfl rfl rfl (by decide +kernel) ⟨Nat.le_of_ble_eq_true rfl, Nat.le_of_ble_eq_true rfl⟩) hK hP hD hS hA 0 7 rfl rfl rfl hl.1 rfl (Nat.le_of_ble_eq_true rfl) dX6_tabBack_23 ⟨Nat.zero_le _, Nat.zero_le _⟩ (fun _ H locs hP hD hS => ?_)
        have hP : va_P (dC, dI) vwCl (wM hM hR hT hZ cI m_allRows m_allColumns m_rows m_columns m_cells m_cursor m_locked m_insert m_alarms m_rejects m_latest m_thrown m_streamLong m_at m_place m_orders m_escaped m_broken m_signBefore m_free m_waitsLong m_cutOff m_screen m_stream m_waits) H := hP
        have hD : va_D A (wM hM hR hT hZ cI m_allRows m_allColumns m_rows m_columns m_cells m_cursor m_locked m_insert m_alarms m_rejects m_latest m_thrown m_streamLong m_at m_place m_orders m_escaped m_broken m_signBefore m_free m_waitsLong m_cutOff m_screen m_stream m_waits) := hD
        refine lv_if_eq (tgt := 40) hx hb dX6_tabBack_26 (by decide) (fun c_4 => ?_) (fun c_4 => ?_)
        · have hf := (if_pos c_4).symm.trans hf
          refine lv_iinc (v := v1 + 1) (lv' := [(1, .int (v1 + 1)), (0, .ref hM)]) hx hb dX6_tabBack_40 hl (k := 1) rfl rfl (by decide) rfl (fun ls hl => ?_)
          refine lv_goto (tgt := 2) hx hb dX6_tabBack_43 (by decide) ?_
          exact ih (v1 + 1) _ _ hf  hP hD hS ls (lv_sub hl [1, 0] rfl)
        · have hf := (if_neg c_4).symm.trans hf
          refine lv_aload_n hx hb dX6_tabBack_29 rfl (lv_at hl 0 rfl) ?_
          refine lv_aload_n hx hb dX6_tabBack_30 rfl (lv_at hl 0 rfl) ?_
          refine va_get (D := (dC, dI)) (ci := 7) (v := .int m_cursor) (C := RX6) (T := TX6) (N := 25) hx hb hts uu_X6_tabBack_X6 hown hK hP 0 rfl rfl 5 (by decide) (hts (.fieldLink RX6 49 "BlockScreenModel" "cursor" "I") (List.mem_of_getElem? (i := 2) rfl)) (fun _ h9 => h9) rfl dX6_tabBack_31 ?_
          refine lv_iload_n hx hb dX6_tabBack_34 rfl (lv_at hl 1 rfl) ?_
          refine lv_isub hx hb dX6_tabBack_35 ?_
          obtain ⟨r_5, hq_5, hf⟩ := ob_inv hf
          refine my_cVi (As := [.int (m_cursor - v1)]) (rest := []) ⟨hx, hb, hml, hown, hts⟩ (c_X6_round l dC dI cI hM hR hT hZ m_allRows m_allColumns m_rows m_columns m_cells m_cursor m_locked m_insert m_alarms m_rejects m_latest m_thrown m_streamLong m_at m_place m_orders m_escaped m_broken m_signBefore m_free m_waitsLong m_cutOff m_screen m_stream m_waits _ (m_cursor - v1) r_5 hq_5) (cwV 1 hts gX6_tabBack_X6_round rfl rfl rfl (by decide +kernel) ⟨Nat.le_of_ble_eq_true rfl, Nat.le_of_ble_eq_true rfl⟩) hK hP hD hS hA 0 7 rfl rfl rfl hl.1 rfl (Nat.le_of_ble_eq_true rfl) dX6_tabBack_36 ⟨Nat.zero_le _, Nat.zero_le _⟩ (fun _ H locs hP hD hS => ?_)
          have hP : va_P (dC, dI) vwCl (wM hM hR hT hZ cI m_allRows m_allColumns m_rows m_columns m_cells m_cursor m_locked m_insert m_alarms m_rejects m_latest m_thrown m_streamLong m_at m_place m_orders m_escaped m_broken m_signBefore m_free m_waitsLong m_cutOff m_screen m_stream m_waits) H := hP
          have hD : va_D A (wM hM hR hT hZ cI m_allRows m_allColumns m_rows m_columns m_cells m_cursor m_locked m_insert m_alarms m_rejects m_latest m_thrown m_streamLong m_at m_place m_orders m_escaped m_broken m_signBefore m_free m_waitsLong m_cutOff m_screen m_stream m_waits) := hD
          have hf := Option.some.inj hf
          subst hf
          exact my_reti () hx hb hr hlocks hK hP hD hS rfl dX6_tabBack_39
  unfold f_X6_tabBack at hf
  refine lv_iconst (v := 1) hx hb dX6_tabBack_0 (by decide) ?_
  refine lv_istore_n (lv' := [(1, .int 1), (0, .ref hM)]) hx hb dX6_tabBack_1 rfl hl (by decide) rfl (fun ls hl => ?_)
  exact L2 FU 1 _ _ hf  hP hD hS ls (lv_sub hl [1, 0] rfl)

theorem uu_X6_nextLine_X6 : ∀ w ∈ u_ws RX6 TX6 25, w ∈ wsX6_nextLine := fun _ h => List.mem_cons_of_mem _ (List.mem_append_right _ h)
def f_X6_nextLine_L24 (m_rows : Int32) (m_columns : Int32) (m_cells : Int32) (m_cursor : Int32) (m_screen : Nat → Int32) : Nat → Int32 → Int32 → Option (Int32)
  | 0, _, _ => none
  | fu + 1, v1, v2 =>
    if m_cells ≤ v2 then
    some 0
    else
    Option.bind (f_X6_round m_cells (v1 + v2)) (fun r_2 =>
    Option.bind (f_X6_mayBeTyped m_cells m_screen r_2) (fun r_3 =>
    if (b2i r_3) = 0 then
    f_X6_nextLine_L24 m_rows m_columns m_cells m_cursor m_screen fu v1 (v2 + 1)
    else
    Option.bind (f_X6_round m_cells (v1 + v2)) (fun r_5 =>
    some r_5)))
def f_X6_nextLine (m_rows : Int32) (m_columns : Int32) (m_cells : Int32) (m_cursor : Int32) (m_screen : Nat → Int32) : Option (Int32) :=
    if m_columns = 0 then none else
    if m_rows = 0 then none else
    f_X6_nextLine_L24 m_rows m_columns m_cells m_cursor m_screen FU ((((m_cursor / m_columns) + 1) - ((m_cursor / m_columns) + 1) / m_rows * m_rows) * m_columns) 0
set_option maxHeartbeats 400000 in
set_option maxRecDepth 100000 in
theorem c_X6_nextLine (l : Launch) (dC : Nat → ClassId) (dI : Nat → Nat → Nat) (cI : ClassId) (hM hR hT hZ : Nat) (m_allRows : Int32) (m_allColumns : Int32) (m_rows : Int32) (m_columns : Int32) (m_cells : Int32) (m_cursor : Int32) (m_locked : Bool) (m_insert : Bool) (m_alarms : Int32) (m_rejects : Int32) (m_latest : Int32) (m_thrown : Int32) (m_streamLong : Int32) (m_at : Int32) (m_place : Int32) (m_orders : Int32) (m_escaped : Bool) (m_broken : Bool) (m_signBefore : Bool) (m_free : Bool) (m_waitsLong : Int32) (m_cutOff : Bool) (m_screen : Nat → Int32) (m_stream : Nat → Int32) (m_waits : Nat → Int32) (sz : Nat)  (res : Int32) (hf : f_X6_nextLine m_rows m_columns m_cells m_cursor m_screen = some res) : Met l yX6_nextLine wsX6_nextLine ({ frames := 5, cells := 0, slots := 0, locals := 107 }) (va_Pc [.ref hM] (my_Pre (dC, dI) [(cI, .int)] (wM hM hR hT hZ cI m_allRows m_allColumns m_rows m_columns m_cells m_cursor m_locked m_insert m_alarms m_rejects m_latest m_thrown m_streamLong m_at m_place m_orders m_escaped m_broken m_signBefore m_free m_waitsLong m_cutOff m_screen m_stream m_waits) sz)) (my_Qi (S := Unit) (dC, dI) [(cI, .int)] res (fun _ => wM hM hR hT hZ cI m_allRows m_allColumns m_rows m_columns m_cells m_cursor m_locked m_insert m_alarms m_rejects m_latest m_thrown m_streamLong m_at m_place m_orders m_escaped m_broken m_signBefore m_free m_waitsLong m_cutOff m_screen m_stream m_waits) (va_A (wM hM hR hT hZ cI m_allRows m_allColumns m_rows m_columns m_cells m_cursor m_locked m_insert m_alarms m_rejects m_latest m_thrown m_streamLong m_at m_place m_orders m_escaped m_broken m_signBefore m_free m_waitsLong m_cutOff m_screen m_stream m_waits) sz)) 0 0 (va_A (wM hM hR hT hZ cI m_allRows m_allColumns m_rows m_columns m_cells m_cursor m_locked m_insert m_alarms m_rejects m_latest m_thrown m_streamLong m_at m_place m_orders m_escaped m_broken m_signBefore m_free m_waitsLong m_cutOff m_screen m_stream m_waits) sz) := by
  refine my_enter (cc := cX6_nextLine) (maxL := 3) (ret := (some .int)) (Qc := my_Qi (S := Unit) (dC, dI) [(cI, .int)] res (fun _ => wM hM hR hT hZ cI m_allRows m_allColumns m_rows m_columns m_cells m_cursor m_locked m_insert m_alarms m_rejects m_latest m_thrown m_streamLong m_at m_place m_orders m_escaped m_broken m_signBefore m_free m_waitsLong m_cutOff m_screen m_stream m_waits)) (by decide) rfl (Nat.le_of_ble_eq_true rfl) ?_
  intro p e s m below meth c A ls hx hb hr hml hts hown hlocks hnm hP hK hD hA hS hl
  have hown : s.vm.findClass RX6 = some m.cls := hown
  have hl : lv_has ls 3 [(0, .ref hM)] := hl
  have L24 : ∀ (fu : Nat) (v1 : Int32) (v2 : Int32)   (H : Heap) (locs : List Loc), f_X6_nextLine_L24 m_rows m_columns m_cells m_cursor m_screen fu v1 v2 = some res → va_P (dC, dI) vwCl (wM hM hR hT hZ cI m_allRows m_allColumns m_rows m_columns m_cells m_cursor m_locked m_insert m_alarms m_rejects m_latest m_thrown m_streamLong m_at m_place m_orders m_escaped m_broken m_signBefore m_free m_waitsLong m_cutOff m_screen m_stream m_waits) H → va_D A (wM hM hR hT hZ cI m_allRows m_allColumns m_rows m_columns m_cells m_cursor m_locked m_insert m_alarms m_rejects m_latest m_thrown m_streamLong m_at m_place m_orders m_escaped m_broken m_signBefore m_free m_waitsLong m_cutOff m_screen m_stream m_waits) → va_S A s.heap H locs → ∀ (ls : Array Slot), lv_has ls 3 [(0, .ref hM), (1, .int v1), (2, .int v2)] → W p l e (headSpec wsX6_nextLine ({ frames := 5, cells := 0, slots := 0, locals := 107 })).room s m ([.ref hM] : List Value).toArray below meth c H locs 0 0 (MQ below (my_Qi (S := Unit) (dC, dI) [(cI, .int)] res (fun _ => wM hM hR hT hZ cI m_allRows m_allColumns m_rows m_columns m_cells m_cursor m_locked m_insert m_alarms m_rejects m_latest m_thrown m_streamLong m_at m_place m_orders m_escaped m_broken m_signBefore m_free m_waitsLong m_cutOff m_screen m_stream m_waits) A) ([.ref hM] : List Value).toArray s 0 0 A) (F0 m 24 ls []) := by
    intro fu
    induction fu with
    | zero =>
      intro v1 v2 H locs hf
      rw [f_X6_nextLine_L24.eq_1] at hf
      cases hf
    | succ fu ih =>
      intro v1 v2 H locs hf  hP hD hS ls hl
      rw [f_X6_nextLine_L24.eq_2] at hf
      refine lv_iload_n hx hb dX6_nextLine_24 rfl (lv_at hl 2 rfl) ?_
      refine lv_aload_n hx hb dX6_nextLine_25 rfl (lv_at hl 0 rfl) ?_
      refine va_get (D := (dC, dI)) (ci := 7) (v := .int m_cells) (C := RX6) (T := TX6) (N := 25) hx hb hts uu_X6_nextLine_X6 hown hK hP 0 rfl rfl 4 (by decide) (hts (.fieldLink RX6 46 "BlockScreenModel" "cells" "I") (List.mem_of_getElem? (i := 4) rfl)) (fun _ h9 => h9) rfl dX6_nextLine_26 ?_
      refine lv_icmp_ge (tgt := 60) hx hb dX6_nextLine_29 (by decide) (fun c_1 => ?_) (fun c_1 => ?_)
      · have hf := (if_pos c_1).symm.trans hf
        refine lv_iconst (v := 0) hx hb dX6_nextLine_60 (by decide) ?_
        have hf := Option.some.inj hf
        subst hf
        exact my_reti () hx hb hr hlocks hK hP hD hS rfl dX6_nextLine_61
      · have hf := (if_neg c_1).symm.trans hf
        refine lv_aload_n hx hb dX6_nextLine_32 rfl (lv_at hl 0 rfl) ?_
        refine lv_aload_n hx hb dX6_nextLine_33 rfl (lv_at hl 0 rfl) ?_
        refine lv_iload_n hx hb dX6_nextLine_34 rfl (lv_at hl 1 rfl) ?_
        refine lv_iload_n hx hb dX6_nextLine_35 rfl (lv_at hl 2 rfl) ?_
        refine lv_iadd hx hb dX6_nextLine_36 ?_
        obtain ⟨r_2, hq_2, hf⟩ := ob_inv hf
        refine my_cVi (As := [.int (v1 + v2)]) (rest := [.ref hM]) ⟨hx, hb, hml, hown, hts⟩ (c_X6_round l dC dI cI hM hR hT hZ m_allRows m_allColumns m_rows m_columns m_cells m_cursor m_locked m_insert m_alarms m_rejects m_latest m_thrown m_streamLong m_at m_place m_orders m_escaped m_broken m_signBefore m_free m_waitsLong m_cutOff m_screen m_stream m_waits _ (v1 + v2) r_2 hq_2) (cwV 1 hts gX6_nextLine_X6_round rfl rfl rfl (by decide +kernel) ⟨Nat.le_of_ble_eq_true rfl, Nat.le_of_ble_eq_true rfl⟩) hK hP hD hS hA 0 7 rfl rfl rfl hl.1 rfl (Nat.le_of_ble_eq_true rfl) dX6_nextLine_37 ⟨Nat.zero_le _, Nat.zero_le _⟩ (fun _ H locs hP hD hS => ?_)
        have hP : va_P (dC, dI) vwCl (wM hM hR hT hZ cI m_allRows m_allColumns m_rows m_columns m_cells m_cursor m_locked m_insert m_alarms m_rejects m_latest m_thrown m_streamLong m_at m_place m_orders m_escaped m_broken m_signBefore m_free m_waitsLong m_cutOff m_screen m_stream m_waits) H := hP
        have hD : va_D A (wM hM hR hT hZ cI m_allRows m_allColumns m_rows m_columns m_cells m_cursor m_locked m_insert m_alarms m_rejects m_latest m_thrown m_streamLong m_at m_place m_orders m_escaped m_broken m_signBefore m_free m_waitsLong m_cutOff m_screen m_stream m_waits) := hD
        obtain ⟨r_3, hq_3, hf⟩ := ob_inv hf
        refine my_cVi (As := [.int r_2]) (rest := []) ⟨hx, hb, hml, hown, hts⟩ (c_X6_mayBeTyped l dC dI cI hM hR hT hZ m_allRows m_allColumns m_rows m_columns m_cells m_cursor m_locked m_insert m_alarms m_rejects m_latest m_thrown m_streamLong m_at m_place m_orders m_escaped m_broken m_signBefore m_free m_waitsLong m_cutOff m_screen m_stream m_waits _ r_2 r_3 hq_3) (cwV 1 hts gX6_nextLine_X6_mayBeTyped rfl rfl rfl (by decide +kernel) ⟨Nat.le_of_ble_eq_true rfl, Nat.le_of_ble_eq_true rfl⟩) hK hP hD hS hA 0 7 rfl rfl rfl hl.1 rfl (Nat.le_of_ble_eq_true rfl) dX6_nextLine_40 ⟨Nat.zero_le _, Nat.zero_le _⟩ (fun _ H locs hP hD hS => ?_)
        have hP : va_P (dC, dI) vwCl (wM hM hR hT hZ cI m_allRows m_allColumns m_rows m_columns m_cells m_cursor m_locked m_insert m_alarms m_rejects m_latest m_thrown m_streamLong m_at m_place m_orders m_escaped m_broken m_signBefore m_free m_waitsLong m_cutOff m_screen m_stream m_waits) H := hP
        have hD : va_D A (wM hM hR hT hZ cI m_allRows m_allColumns m_rows m_columns m_cells m_cursor m_locked m_insert m_alarms m_rejects m_latest m_thrown m_streamLong m_at m_place m_orders m_escaped m_broken m_signBefore m_free m_waitsLong m_cutOff m_screen m_stream m_waits) := hD
        refine lv_if_eq (tgt := 54) hx hb dX6_nextLine_43 (by decide) (fun c_4 => ?_) (fun c_4 => ?_)
        · have hf := (if_pos c_4).symm.trans hf
          refine lv_iinc (v := v2 + 1) (lv' := [(2, .int (v2 + 1)), (0, .ref hM), (1, .int v1)]) hx hb dX6_nextLine_54 hl (k := 2) rfl rfl (by decide) rfl (fun ls hl => ?_)
          refine lv_goto (tgt := 24) hx hb dX6_nextLine_57 (by decide) ?_
          exact ih v1 (v2 + 1) _ _ hf  hP hD hS ls (lv_sub hl [1, 2, 0] rfl)
        · have hf := (if_neg c_4).symm.trans hf
          refine lv_aload_n hx hb dX6_nextLine_46 rfl (lv_at hl 0 rfl) ?_
          refine lv_iload_n hx hb dX6_nextLine_47 rfl (lv_at hl 1 rfl) ?_
          refine lv_iload_n hx hb dX6_nextLine_48 rfl (lv_at hl 2 rfl) ?_
          refine lv_iadd hx hb dX6_nextLine_49 ?_
          obtain ⟨r_5, hq_5, hf⟩ := ob_inv hf
          refine my_cVi (As := [.int (v1 + v2)]) (rest := []) ⟨hx, hb, hml, hown, hts⟩ (c_X6_round l dC dI cI hM hR hT hZ m_allRows m_allColumns m_rows m_columns m_cells m_cursor m_locked m_insert m_alarms m_rejects m_latest m_thrown m_streamLong m_at m_place m_orders m_escaped m_broken m_signBefore m_free m_waitsLong m_cutOff m_screen m_stream m_waits _ (v1 + v2) r_5 hq_5) (cwV 1 hts gX6_nextLine_X6_round rfl rfl rfl (by decide +kernel) ⟨Nat.le_of_ble_eq_true rfl, Nat.le_of_ble_eq_true rfl⟩) hK hP hD hS hA 0 7 rfl rfl rfl hl.1 rfl (Nat.le_of_ble_eq_true rfl) dX6_nextLine_50 ⟨Nat.zero_le _, Nat.zero_le _⟩ (fun _ H locs hP hD hS => ?_)
          have hP : va_P (dC, dI) vwCl (wM hM hR hT hZ cI m_allRows m_allColumns m_rows m_columns m_cells m_cursor m_locked m_insert m_alarms m_rejects m_latest m_thrown m_streamLong m_at m_place m_orders m_escaped m_broken m_signBefore m_free m_waitsLong m_cutOff m_screen m_stream m_waits) H := hP
          have hD : va_D A (wM hM hR hT hZ cI m_allRows m_allColumns m_rows m_columns m_cells m_cursor m_locked m_insert m_alarms m_rejects m_latest m_thrown m_streamLong m_at m_place m_orders m_escaped m_broken m_signBefore m_free m_waitsLong m_cutOff m_screen m_stream m_waits) := hD
          have hf := Option.some.inj hf
          subst hf
          exact my_reti () hx hb hr hlocks hK hP hD hS rfl dX6_nextLine_53
  unfold f_X6_nextLine at hf
  refine lv_aload_n hx hb dX6_nextLine_0 rfl (lv_at hl 0 rfl) ?_
  refine va_get (D := (dC, dI)) (ci := 7) (v := .int m_cursor) (C := RX6) (T := TX6) (N := 25) hx hb hts uu_X6_nextLine_X6 hown hK hP 0 rfl rfl 5 (by decide) (hts (.fieldLink RX6 49 "BlockScreenModel" "cursor" "I") (List.mem_of_getElem? (i := 1) rfl)) (fun _ h9 => h9) rfl dX6_nextLine_1 ?_
  refine lv_aload_n hx hb dX6_nextLine_4 rfl (lv_at hl 0 rfl) ?_
  refine va_get (D := (dC, dI)) (ci := 7) (v := .int m_columns) (C := RX6) (T := TX6) (N := 25) hx hb hts uu_X6_nextLine_X6 hown hK hP 0 rfl rfl 3 (by decide) (hts (.fieldLink RX6 43 "BlockScreenModel" "columns" "I") (List.mem_of_getElem? (i := 2) rfl)) (fun _ h9 => h9) rfl dX6_nextLine_5 ?_
  rcases Classical.em (m_columns = 0) with c_6 | c_6
  · exact nn_abs ((if_pos c_6).symm.trans hf)
  have hf := (if_neg c_6).symm.trans hf
  refine lv_idiv hx hb dX6_nextLine_8 c_6 ?_
  refine lv_iconst (v := 1) hx hb dX6_nextLine_9 (by decide) ?_
  refine lv_iadd hx hb dX6_nextLine_10 ?_
  refine lv_aload_n hx hb dX6_nextLine_11 rfl (lv_at hl 0 rfl) ?_
  refine va_get (D := (dC, dI)) (ci := 7) (v := .int m_rows) (C := RX6) (T := TX6) (N := 25) hx hb hts uu_X6_nextLine_X6 hown hK hP 0 rfl rfl 2 (by decide) (hts (.fieldLink RX6 40 "BlockScreenModel" "rows" "I") (List.mem_of_getElem? (i := 3) rfl)) (fun _ h9 => h9) rfl dX6_nextLine_12 ?_
  rcases Classical.em (m_rows = 0) with c_7 | c_7
  · exact nn_abs ((if_pos c_7).symm.trans hf)
  have hf := (if_neg c_7).symm.trans hf
  refine lv_irem hx hb dX6_nextLine_15 c_7 ?_
  refine lv_aload_n hx hb dX6_nextLine_16 rfl (lv_at hl 0 rfl) ?_
  refine va_get (D := (dC, dI)) (ci := 7) (v := .int m_columns) (C := RX6) (T := TX6) (N := 25) hx hb hts uu_X6_nextLine_X6 hown hK hP 0 rfl rfl 3 (by decide) (hts (.fieldLink RX6 43 "BlockScreenModel" "columns" "I") (List.mem_of_getElem? (i := 2) rfl)) (fun _ h9 => h9) rfl dX6_nextLine_17 ?_
  refine lv_imul hx hb dX6_nextLine_20 ?_
  refine lv_istore_n (lv' := [(1, .int ((((m_cursor / m_columns) + 1) - ((m_cursor / m_columns) + 1) / m_rows * m_rows) * m_columns)), (0, .ref hM)]) hx hb dX6_nextLine_21 rfl hl (by decide) rfl (fun ls hl => ?_)
  refine lv_iconst (v := 0) hx hb dX6_nextLine_22 (by decide) ?_
  refine lv_istore_n (lv' := [(2, .int 0), (1, .int ((((m_cursor / m_columns) + 1) - ((m_cursor / m_columns) + 1) / m_rows * m_rows) * m_columns)), (0, .ref hM)]) hx hb dX6_nextLine_23 rfl hl (by decide) rfl (fun ls hl => ?_)
  exact L24 FU ((((m_cursor / m_columns) + 1) - ((m_cursor / m_columns) + 1) / m_rows * m_rows) * m_columns) 0 _ _ hf  hP hD hS ls (lv_sub hl [2, 1, 0] rfl)

def f_X6_refuse (m_locked : Bool) : Int32 × Bool :=
    thn (f_X6_lock m_locked) (fun m_locked_1 =>
    (0, m_locked_1))
set_option maxHeartbeats 400000 in
set_option maxRecDepth 100000 in
theorem c_X6_refuse (l : Launch) (dC : Nat → ClassId) (dI : Nat → Nat → Nat) (cI : ClassId) (hM hR hT hZ : Nat) (m_allRows : Int32) (m_allColumns : Int32) (m_rows : Int32) (m_columns : Int32) (m_cells : Int32) (m_cursor : Int32) (m_locked : Bool) (m_insert : Bool) (m_alarms : Int32) (m_rejects : Int32) (m_latest : Int32) (m_thrown : Int32) (m_streamLong : Int32) (m_at : Int32) (m_place : Int32) (m_orders : Int32) (m_escaped : Bool) (m_broken : Bool) (m_signBefore : Bool) (m_free : Bool) (m_waitsLong : Int32) (m_cutOff : Bool) (m_screen : Nat → Int32) (m_stream : Nat → Int32) (m_waits : Nat → Int32) (sz : Nat)  (res : Int32 × Bool) (hf : f_X6_refuse m_locked = res) : Met l yX6_refuse wsX6_refuse ({ frames := 1, cells := 0, slots := 0, locals := 20 }) (va_Pc [.ref hM] (my_Pre (dC, dI) [(cI, .int)] (wM hM hR hT hZ cI m_allRows m_allColumns m_rows m_columns m_cells m_cursor m_locked m_insert m_alarms m_rejects m_latest m_thrown m_streamLong m_at m_place m_orders m_escaped m_broken m_signBefore m_free m_waitsLong m_cutOff m_screen m_stream m_waits) sz)) (my_Qi (S := Unit) (dC, dI) [(cI, .int)] res.1 (fun _ => wM hM hR hT hZ cI m_allRows m_allColumns m_rows m_columns m_cells m_cursor res.2 m_insert m_alarms m_rejects m_latest m_thrown m_streamLong m_at m_place m_orders m_escaped m_broken m_signBefore m_free m_waitsLong m_cutOff m_screen m_stream m_waits) (va_A (wM hM hR hT hZ cI m_allRows m_allColumns m_rows m_columns m_cells m_cursor m_locked m_insert m_alarms m_rejects m_latest m_thrown m_streamLong m_at m_place m_orders m_escaped m_broken m_signBefore m_free m_waitsLong m_cutOff m_screen m_stream m_waits) sz)) 0 0 (va_A (wM hM hR hT hZ cI m_allRows m_allColumns m_rows m_columns m_cells m_cursor m_locked m_insert m_alarms m_rejects m_latest m_thrown m_streamLong m_at m_place m_orders m_escaped m_broken m_signBefore m_free m_waitsLong m_cutOff m_screen m_stream m_waits) sz) := by
  refine my_enter (cc := cX6_refuse) (maxL := 1) (ret := (some .int)) (Qc := my_Qi (S := Unit) (dC, dI) [(cI, .int)] res.1 (fun _ => wM hM hR hT hZ cI m_allRows m_allColumns m_rows m_columns m_cells m_cursor res.2 m_insert m_alarms m_rejects m_latest m_thrown m_streamLong m_at m_place m_orders m_escaped m_broken m_signBefore m_free m_waitsLong m_cutOff m_screen m_stream m_waits)) (by decide) rfl (Nat.le_of_ble_eq_true rfl) ?_
  intro p e s m below meth c A ls hx hb hr hml hts hown hlocks hnm hP hK hD hA hS hl
  have hown : s.vm.findClass RX6 = some m.cls := hown
  have hl : lv_has ls 1 [(0, .ref hM)] := hl
  unfold f_X6_refuse at hf
  refine lv_aload_n hx hb dX6_refuse_0 rfl (lv_at hl 0 rfl) ?_
  obtain ⟨m_locked_1, hq_1, hf⟩ := th_inv hf
  refine my_cVv (As := []) (rest := []) ⟨hx, hb, hml, hown, hts⟩ (c_X6_lock l dC dI cI hM hR hT hZ m_allRows m_allColumns m_rows m_columns m_cells m_cursor m_locked m_insert m_alarms m_rejects m_latest m_thrown m_streamLong m_at m_place m_orders m_escaped m_broken m_signBefore m_free m_waitsLong m_cutOff m_screen m_stream m_waits _  m_locked_1 hq_1) (cwV 0 hts gX6_refuse_X6_lock rfl rfl rfl (by decide +kernel) ⟨Nat.le_of_ble_eq_true rfl, Nat.le_of_ble_eq_true rfl⟩) hK hP hD hS hA 0 7 rfl rfl rfl hl.1 rfl (Nat.le_of_ble_eq_true rfl) dX6_refuse_1 ⟨Nat.zero_le _, Nat.zero_le _⟩ (fun _ H locs hP hD hS => ?_)
  have hP : va_P (dC, dI) vwCl (wM hM hR hT hZ cI m_allRows m_allColumns m_rows m_columns m_cells m_cursor m_locked_1 m_insert m_alarms m_rejects m_latest m_thrown m_streamLong m_at m_place m_orders m_escaped m_broken m_signBefore m_free m_waitsLong m_cutOff m_screen m_stream m_waits) H := hP
  have hD : va_D A (wM hM hR hT hZ cI m_allRows m_allColumns m_rows m_columns m_cells m_cursor m_locked_1 m_insert m_alarms m_rejects m_latest m_thrown m_streamLong m_at m_place m_orders m_escaped m_broken m_signBefore m_free m_waitsLong m_cutOff m_screen m_stream m_waits) := hD
  refine lv_iconst (v := 0) hx hb dX6_refuse_4 (by decide) ?_
  subst hf
  exact my_reti () hx hb hr hlocks hK hP hD hS rfl dX6_refuse_5

theorem uu_X6_eraseToEnd_X6 : ∀ w ∈ u_ws RX6 TX6 25, w ∈ wsX6_eraseToEnd := fun _ h => List.mem_cons_of_mem _ (List.mem_append_right _ h)
def f_X6_eraseToEnd_L27 (m_cells : Int32) (m_cursor : Int32) : Nat → Int32 → Int32 → Bool → (Nat → Int32) → Option (Int32 × Bool × (Nat → Int32))
  | 0, _, _, _, _ => none
  | fu + 1, v1, v2, z_m_locked, z_m_screen =>
    if v1 ≤ v2 then
    Option.bind (f_X6_modify m_cells z_m_screen m_cursor) (fun m_screen_2 =>
    some (1, z_m_locked, m_screen_2))
    else
    Option.bind (f_X6_round m_cells (m_cursor + v2)) (fun r_3 =>
    if r_3 < 0 ∨ 5676 ≤ r_3.toNatClampNeg then none else
    f_X6_eraseToEnd_L27 m_cells m_cursor fu v1 (v2 + 1) z_m_locked (upd z_m_screen r_3.toNatClampNeg 0))
def f_X6_eraseToEnd (m_cells : Int32) (m_cursor : Int32) (m_locked : Bool) (m_screen : Nat → Int32) : Option (Int32 × Bool × (Nat → Int32)) :=
    Option.bind (f_X6_mayBeTyped m_cells m_screen m_cursor) (fun r_5 =>
    if (b2i r_5) = 0 then
    thn (f_X6_refuse m_locked) (fun (r_8, m_locked_8) =>
    some (r_8, m_locked_8, m_screen))
    else
    Option.bind (f_X6_toEnd m_cells m_screen m_cursor) (fun r_7 =>
    f_X6_eraseToEnd_L27 m_cells m_cursor FU r_7 0 m_locked m_screen))
set_option maxHeartbeats 400000 in
set_option maxRecDepth 100000 in
theorem c_X6_eraseToEnd (l : Launch) (dC : Nat → ClassId) (dI : Nat → Nat → Nat) (cI : ClassId) (hM hR hT hZ : Nat) (m_allRows : Int32) (m_allColumns : Int32) (m_rows : Int32) (m_columns : Int32) (m_cells : Int32) (m_cursor : Int32) (m_locked : Bool) (m_insert : Bool) (m_alarms : Int32) (m_rejects : Int32) (m_latest : Int32) (m_thrown : Int32) (m_streamLong : Int32) (m_at : Int32) (m_place : Int32) (m_orders : Int32) (m_escaped : Bool) (m_broken : Bool) (m_signBefore : Bool) (m_free : Bool) (m_waitsLong : Int32) (m_cutOff : Bool) (m_screen : Nat → Int32) (m_stream : Nat → Int32) (m_waits : Nat → Int32) (sz : Nat)  (res : Int32 × Bool × (Nat → Int32)) (hf : f_X6_eraseToEnd m_cells m_cursor m_locked m_screen = some res) : Met l yX6_eraseToEnd wsX6_eraseToEnd ({ frames := 5, cells := 0, slots := 0, locals := 107 }) (va_Pc [.ref hM] (my_Pre (dC, dI) [(cI, .int)] (wM hM hR hT hZ cI m_allRows m_allColumns m_rows m_columns m_cells m_cursor m_locked m_insert m_alarms m_rejects m_latest m_thrown m_streamLong m_at m_place m_orders m_escaped m_broken m_signBefore m_free m_waitsLong m_cutOff m_screen m_stream m_waits) sz)) (my_Qi (S := Unit) (dC, dI) [(cI, .int)] res.1 (fun _ => wM hM hR hT hZ cI m_allRows m_allColumns m_rows m_columns m_cells m_cursor res.2.1 m_insert m_alarms m_rejects m_latest m_thrown m_streamLong m_at m_place m_orders m_escaped m_broken m_signBefore m_free m_waitsLong m_cutOff res.2.2 m_stream m_waits) (va_A (wM hM hR hT hZ cI m_allRows m_allColumns m_rows m_columns m_cells m_cursor m_locked m_insert m_alarms m_rejects m_latest m_thrown m_streamLong m_at m_place m_orders m_escaped m_broken m_signBefore m_free m_waitsLong m_cutOff m_screen m_stream m_waits) sz)) 0 0 (va_A (wM hM hR hT hZ cI m_allRows m_allColumns m_rows m_columns m_cells m_cursor m_locked m_insert m_alarms m_rejects m_latest m_thrown m_streamLong m_at m_place m_orders m_escaped m_broken m_signBefore m_free m_waitsLong m_cutOff m_screen m_stream m_waits) sz) := by
  refine my_enter (cc := cX6_eraseToEnd) (maxL := 3) (ret := (some .int)) (Qc := my_Qi (S := Unit) (dC, dI) [(cI, .int)] res.1 (fun _ => wM hM hR hT hZ cI m_allRows m_allColumns m_rows m_columns m_cells m_cursor res.2.1 m_insert m_alarms m_rejects m_latest m_thrown m_streamLong m_at m_place m_orders m_escaped m_broken m_signBefore m_free m_waitsLong m_cutOff res.2.2 m_stream m_waits)) (by decide) rfl (Nat.le_of_ble_eq_true rfl) ?_
  intro p e s m below meth c A ls hx hb hr hml hts hown hlocks hnm hP hK hD hA hS hl
  have hown : s.vm.findClass RX6 = some m.cls := hown
  have hl : lv_has ls 3 [(0, .ref hM)] := hl
  have L27 : ∀ (fu : Nat) (v1 : Int32) (v2 : Int32) (z_m_locked : Bool) (z_m_screen : Nat → Int32)  (H : Heap) (locs : List Loc), f_X6_eraseToEnd_L27 m_cells m_cursor fu v1 v2 z_m_locked z_m_screen = some res → va_P (dC, dI) vwCl (wM hM hR hT hZ cI m_allRows m_allColumns m_rows m_columns m_cells m_cursor z_m_locked m_insert m_alarms m_rejects m_latest m_thrown m_streamLong m_at m_place m_orders m_escaped m_broken m_signBefore m_free m_waitsLong m_cutOff z_m_screen m_stream m_waits) H → va_D A (wM hM hR hT hZ cI m_allRows m_allColumns m_rows m_columns m_cells m_cursor z_m_locked m_insert m_alarms m_rejects m_latest m_thrown m_streamLong m_at m_place m_orders m_escaped m_broken m_signBefore m_free m_waitsLong m_cutOff z_m_screen m_stream m_waits) → va_S A s.heap H locs → ∀ (ls : Array Slot), lv_has ls 3 [(0, .ref hM), (1, .int v1), (2, .int v2)] → W p l e (headSpec wsX6_eraseToEnd ({ frames := 5, cells := 0, slots := 0, locals := 107 })).room s m ([.ref hM] : List Value).toArray below meth c H locs 0 0 (MQ below (my_Qi (S := Unit) (dC, dI) [(cI, .int)] res.1 (fun _ => wM hM hR hT hZ cI m_allRows m_allColumns m_rows m_columns m_cells m_cursor res.2.1 m_insert m_alarms m_rejects m_latest m_thrown m_streamLong m_at m_place m_orders m_escaped m_broken m_signBefore m_free m_waitsLong m_cutOff res.2.2 m_stream m_waits) A) ([.ref hM] : List Value).toArray s 0 0 A) (F0 m 27 ls []) := by
    intro fu
    induction fu with
    | zero =>
      intro v1 v2 z_m_locked z_m_screen H locs hf
      rw [f_X6_eraseToEnd_L27.eq_1] at hf
      cases hf
    | succ fu ih =>
      intro v1 v2 z_m_locked z_m_screen H locs hf  hP hD hS ls hl
      rw [f_X6_eraseToEnd_L27.eq_2] at hf
      refine lv_iload_n hx hb dX6_eraseToEnd_27 rfl (lv_at hl 2 rfl) ?_
      refine lv_iload_n hx hb dX6_eraseToEnd_28 rfl (lv_at hl 1 rfl) ?_
      refine lv_icmp_ge (tgt := 54) hx hb dX6_eraseToEnd_29 (by decide) (fun c_1 => ?_) (fun c_1 => ?_)
      · have hf := (if_pos c_1).symm.trans hf
        refine lv_aload_n hx hb dX6_eraseToEnd_54 rfl (lv_at hl 0 rfl) ?_
        refine lv_aload_n hx hb dX6_eraseToEnd_55 rfl (lv_at hl 0 rfl) ?_
        refine va_get (D := (dC, dI)) (ci := 7) (v := .int m_cursor) (C := RX6) (T := TX6) (N := 25) hx hb hts uu_X6_eraseToEnd_X6 hown hK hP 0 rfl rfl 5 (by decide) (hts (.fieldLink RX6 49 "BlockScreenModel" "cursor" "I") (List.mem_of_getElem? (i := 1) rfl)) (fun _ h9 => h9) rfl dX6_eraseToEnd_56 ?_
        obtain ⟨m_screen_2, hq_2, hf⟩ := ob_inv hf
        refine my_cVv (As := [.int m_cursor]) (rest := []) ⟨hx, hb, hml, hown, hts⟩ (c_X6_modify l dC dI cI hM hR hT hZ m_allRows m_allColumns m_rows m_columns m_cells m_cursor z_m_locked m_insert m_alarms m_rejects m_latest m_thrown m_streamLong m_at m_place m_orders m_escaped m_broken m_signBefore m_free m_waitsLong m_cutOff z_m_screen m_stream m_waits _ m_cursor m_screen_2 hq_2) (cwV 1 hts gX6_eraseToEnd_X6_modify rfl rfl rfl (by decide +kernel) ⟨Nat.le_of_ble_eq_true rfl, Nat.le_of_ble_eq_true rfl⟩) hK hP hD hS hA 0 7 rfl rfl rfl hl.1 rfl (Nat.le_of_ble_eq_true rfl) dX6_eraseToEnd_59 ⟨Nat.zero_le _, Nat.zero_le _⟩ (fun _ H locs hP hD hS => ?_)
        have hP : va_P (dC, dI) vwCl (wM hM hR hT hZ cI m_allRows m_allColumns m_rows m_columns m_cells m_cursor z_m_locked m_insert m_alarms m_rejects m_latest m_thrown m_streamLong m_at m_place m_orders m_escaped m_broken m_signBefore m_free m_waitsLong m_cutOff m_screen_2 m_stream m_waits) H := hP
        have hD : va_D A (wM hM hR hT hZ cI m_allRows m_allColumns m_rows m_columns m_cells m_cursor z_m_locked m_insert m_alarms m_rejects m_latest m_thrown m_streamLong m_at m_place m_orders m_escaped m_broken m_signBefore m_free m_waitsLong m_cutOff m_screen_2 m_stream m_waits) := hD
        refine lv_iconst (v := 1) hx hb dX6_eraseToEnd_62 (by decide) ?_
        have hf := Option.some.inj hf
        subst hf
        exact my_reti () hx hb hr hlocks hK hP hD hS rfl dX6_eraseToEnd_63
      · have hf := (if_neg c_1).symm.trans hf
        refine lv_aload_n hx hb dX6_eraseToEnd_32 rfl (lv_at hl 0 rfl) ?_
        refine va_get (D := (dC, dI)) (ci := 7) (v := .ref hR) (C := RX6) (T := TX6) (N := 25) hx hb hts uu_X6_eraseToEnd_X6 hown hK hP 0 rfl rfl 6 (by decide) (hts (.fieldLink RX6 7 "BlockScreenModel" "screen" "[I") (List.mem_of_getElem? (i := 2) rfl)) (fun _ h9 => h9) rfl dX6_eraseToEnd_33 ?_
        refine lv_aload_n hx hb dX6_eraseToEnd_36 rfl (lv_at hl 0 rfl) ?_
        refine lv_aload_n hx hb dX6_eraseToEnd_37 rfl (lv_at hl 0 rfl) ?_
        refine va_get (D := (dC, dI)) (ci := 7) (v := .int m_cursor) (C := RX6) (T := TX6) (N := 25) hx hb hts uu_X6_eraseToEnd_X6 hown hK hP 0 rfl rfl 5 (by decide) (hts (.fieldLink RX6 49 "BlockScreenModel" "cursor" "I") (List.mem_of_getElem? (i := 1) rfl)) (fun _ h9 => h9) rfl dX6_eraseToEnd_38 ?_
        refine lv_iload_n hx hb dX6_eraseToEnd_41 rfl (lv_at hl 2 rfl) ?_
        refine lv_iadd hx hb dX6_eraseToEnd_42 ?_
        obtain ⟨r_3, hq_3, hf⟩ := ob_inv hf
        refine my_cVi (As := [.int (m_cursor + v2)]) (rest := [.ref hR]) ⟨hx, hb, hml, hown, hts⟩ (c_X6_round l dC dI cI hM hR hT hZ m_allRows m_allColumns m_rows m_columns m_cells m_cursor z_m_locked m_insert m_alarms m_rejects m_latest m_thrown m_streamLong m_at m_place m_orders m_escaped m_broken m_signBefore m_free m_waitsLong m_cutOff z_m_screen m_stream m_waits _ (m_cursor + v2) r_3 hq_3) (cwV 1 hts gX6_eraseToEnd_X6_round rfl rfl rfl (by decide +kernel) ⟨Nat.le_of_ble_eq_true rfl, Nat.le_of_ble_eq_true rfl⟩) hK hP hD hS hA 0 7 rfl rfl rfl hl.1 rfl (Nat.le_of_ble_eq_true rfl) dX6_eraseToEnd_43 ⟨Nat.zero_le _, Nat.zero_le _⟩ (fun _ H locs hP hD hS => ?_)
        have hP : va_P (dC, dI) vwCl (wM hM hR hT hZ cI m_allRows m_allColumns m_rows m_columns m_cells m_cursor z_m_locked m_insert m_alarms m_rejects m_latest m_thrown m_streamLong m_at m_place m_orders m_escaped m_broken m_signBefore m_free m_waitsLong m_cutOff z_m_screen m_stream m_waits) H := hP
        have hD : va_D A (wM hM hR hT hZ cI m_allRows m_allColumns m_rows m_columns m_cells m_cursor z_m_locked m_insert m_alarms m_rejects m_latest m_thrown m_streamLong m_at m_place m_orders m_escaped m_broken m_signBefore m_free m_waitsLong m_cutOff z_m_screen m_stream m_waits) := hD
        refine lv_iconst (v := 0) hx hb dX6_eraseToEnd_46 (by decide) ?_
        rcases Classical.em (r_3 < 0 ∨ 5676 ≤ r_3.toNatClampNeg) with c_4 | c_4
        · exact nn_abs ((if_pos c_4).symm.trans hf)
        have hf := (if_neg c_4).symm.trans hf
        refine va_iast hx hb hK hP hD hS 1 0 rfl rfl c_4 dX6_eraseToEnd_47 (fun H locs hP hD hS => ?_)
        have hP : va_P (dC, dI) vwCl (wM hM hR hT hZ cI m_allRows m_allColumns m_rows m_columns m_cells m_cursor z_m_locked m_insert m_alarms m_rejects m_latest m_thrown m_streamLong m_at m_place m_orders m_escaped m_broken m_signBefore m_free m_waitsLong m_cutOff (upd z_m_screen r_3.toNatClampNeg 0) m_stream m_waits) H := hP
        have hD : va_D A (wM hM hR hT hZ cI m_allRows m_allColumns m_rows m_columns m_cells m_cursor z_m_locked m_insert m_alarms m_rejects m_latest m_thrown m_streamLong m_at m_place m_orders m_escaped m_broken m_signBefore m_free m_waitsLong m_cutOff (upd z_m_screen r_3.toNatClampNeg 0) m_stream m_waits) := hD
        refine lv_iinc (v := v2 + 1) (lv' := [(2, .int (v2 + 1)), (0, .ref hM), (1, .int v1)]) hx hb dX6_eraseToEnd_48 hl (k := 2) rfl rfl (by decide) rfl (fun ls hl => ?_)
        refine lv_goto (tgt := 27) hx hb dX6_eraseToEnd_51 (by decide) ?_
        exact ih v1 (v2 + 1) z_m_locked (upd z_m_screen r_3.toNatClampNeg 0) _ _ hf  hP hD hS ls (lv_sub hl [1, 2, 0] rfl)
  unfold f_X6_eraseToEnd at hf
  refine lv_aload_n hx hb dX6_eraseToEnd_0 rfl (lv_at hl 0 rfl) ?_
  refine lv_aload_n hx hb dX6_eraseToEnd_1 rfl (lv_at hl 0 rfl) ?_
  refine va_get (D := (dC, dI)) (ci := 7) (v := .int m_cursor) (C := RX6) (T := TX6) (N := 25) hx hb hts uu_X6_eraseToEnd_X6 hown hK hP 0 rfl rfl 5 (by decide) (hts (.fieldLink RX6 49 "BlockScreenModel" "cursor" "I") (List.mem_of_getElem? (i := 1) rfl)) (fun _ h9 => h9) rfl dX6_eraseToEnd_2 ?_
  obtain ⟨r_5, hq_5, hf⟩ := ob_inv hf
  refine my_cVi (As := [.int m_cursor]) (rest := []) ⟨hx, hb, hml, hown, hts⟩ (c_X6_mayBeTyped l dC dI cI hM hR hT hZ m_allRows m_allColumns m_rows m_columns m_cells m_cursor m_locked m_insert m_alarms m_rejects m_latest m_thrown m_streamLong m_at m_place m_orders m_escaped m_broken m_signBefore m_free m_waitsLong m_cutOff m_screen m_stream m_waits _ m_cursor r_5 hq_5) (cwV 1 hts gX6_eraseToEnd_X6_mayBeTyped rfl rfl rfl (by decide +kernel) ⟨Nat.le_of_ble_eq_true rfl, Nat.le_of_ble_eq_true rfl⟩) hK hP hD hS hA 0 7 rfl rfl rfl hl.1 rfl (Nat.le_of_ble_eq_true rfl) dX6_eraseToEnd_5 ⟨Nat.zero_le _, Nat.zero_le _⟩ (fun _ H locs hP hD hS => ?_)
  have hP : va_P (dC, dI) vwCl (wM hM hR hT hZ cI m_allRows m_allColumns m_rows m_columns m_cells m_cursor m_locked m_insert m_alarms m_rejects m_latest m_thrown m_streamLong m_at m_place m_orders m_escaped m_broken m_signBefore m_free m_waitsLong m_cutOff m_screen m_stream m_waits) H := hP
  have hD : va_D A (wM hM hR hT hZ cI m_allRows m_allColumns m_rows m_columns m_cells m_cursor m_locked m_insert m_alarms m_rejects m_latest m_thrown m_streamLong m_at m_place m_orders m_escaped m_broken m_signBefore m_free m_waitsLong m_cutOff m_screen m_stream m_waits) := hD
  refine lv_if_ne (tgt := 16) hx hb dX6_eraseToEnd_8 (by decide) (fun c_6 => ?_) (fun c_6 => ?_)
  · have hf := (if_neg c_6).symm.trans hf
    refine lv_aload_n hx hb dX6_eraseToEnd_16 rfl (lv_at hl 0 rfl) ?_
    refine lv_aload_n hx hb dX6_eraseToEnd_17 rfl (lv_at hl 0 rfl) ?_
    refine va_get (D := (dC, dI)) (ci := 7) (v := .int m_cursor) (C := RX6) (T := TX6) (N := 25) hx hb hts uu_X6_eraseToEnd_X6 hown hK hP 0 rfl rfl 5 (by decide) (hts (.fieldLink RX6 49 "BlockScreenModel" "cursor" "I") (List.mem_of_getElem? (i := 1) rfl)) (fun _ h9 => h9) rfl dX6_eraseToEnd_18 ?_
    obtain ⟨r_7, hq_7, hf⟩ := ob_inv hf
    refine my_cVi (As := [.int m_cursor]) (rest := []) ⟨hx, hb, hml, hown, hts⟩ (c_X6_toEnd l dC dI cI hM hR hT hZ m_allRows m_allColumns m_rows m_columns m_cells m_cursor m_locked m_insert m_alarms m_rejects m_latest m_thrown m_streamLong m_at m_place m_orders m_escaped m_broken m_signBefore m_free m_waitsLong m_cutOff m_screen m_stream m_waits _ m_cursor r_7 hq_7) (cwV 1 hts gX6_eraseToEnd_X6_toEnd rfl rfl rfl (by decide +kernel) ⟨Nat.le_of_ble_eq_true rfl, Nat.le_of_ble_eq_true rfl⟩) hK hP hD hS hA 0 7 rfl rfl rfl hl.1 rfl (Nat.le_of_ble_eq_true rfl) dX6_eraseToEnd_21 ⟨Nat.zero_le _, Nat.zero_le _⟩ (fun _ H locs hP hD hS => ?_)
    have hP : va_P (dC, dI) vwCl (wM hM hR hT hZ cI m_allRows m_allColumns m_rows m_columns m_cells m_cursor m_locked m_insert m_alarms m_rejects m_latest m_thrown m_streamLong m_at m_place m_orders m_escaped m_broken m_signBefore m_free m_waitsLong m_cutOff m_screen m_stream m_waits) H := hP
    have hD : va_D A (wM hM hR hT hZ cI m_allRows m_allColumns m_rows m_columns m_cells m_cursor m_locked m_insert m_alarms m_rejects m_latest m_thrown m_streamLong m_at m_place m_orders m_escaped m_broken m_signBefore m_free m_waitsLong m_cutOff m_screen m_stream m_waits) := hD
    refine lv_istore_n (lv' := [(1, .int r_7), (0, .ref hM)]) hx hb dX6_eraseToEnd_24 rfl hl (by decide) rfl (fun ls hl => ?_)
    refine lv_iconst (v := 0) hx hb dX6_eraseToEnd_25 (by decide) ?_
    refine lv_istore_n (lv' := [(2, .int 0), (1, .int r_7), (0, .ref hM)]) hx hb dX6_eraseToEnd_26 rfl hl (by decide) rfl (fun ls hl => ?_)
    exact L27 FU r_7 0 m_locked m_screen _ _ hf  hP hD hS ls (lv_sub hl [2, 1, 0] rfl)
  · have hf := (if_pos c_6).symm.trans hf
    refine lv_aload_n hx hb dX6_eraseToEnd_11 rfl (lv_at hl 0 rfl) ?_
    obtain ⟨⟨r_8, m_locked_8⟩, hq_8, hf⟩ := th_inv hf
    refine my_cVi (As := []) (rest := []) ⟨hx, hb, hml, hown, hts⟩ (c_X6_refuse l dC dI cI hM hR hT hZ m_allRows m_allColumns m_rows m_columns m_cells m_cursor m_locked m_insert m_alarms m_rejects m_latest m_thrown m_streamLong m_at m_place m_orders m_escaped m_broken m_signBefore m_free m_waitsLong m_cutOff m_screen m_stream m_waits _  (r_8, m_locked_8) hq_8) (cwV 0 hts gX6_eraseToEnd_X6_refuse rfl rfl rfl (by decide +kernel) ⟨Nat.le_of_ble_eq_true rfl, Nat.le_of_ble_eq_true rfl⟩) hK hP hD hS hA 0 7 rfl rfl rfl hl.1 rfl (Nat.le_of_ble_eq_true rfl) dX6_eraseToEnd_12 ⟨Nat.zero_le _, Nat.zero_le _⟩ (fun _ H locs hP hD hS => ?_)
    have hP : va_P (dC, dI) vwCl (wM hM hR hT hZ cI m_allRows m_allColumns m_rows m_columns m_cells m_cursor m_locked_8 m_insert m_alarms m_rejects m_latest m_thrown m_streamLong m_at m_place m_orders m_escaped m_broken m_signBefore m_free m_waitsLong m_cutOff m_screen m_stream m_waits) H := hP
    have hD : va_D A (wM hM hR hT hZ cI m_allRows m_allColumns m_rows m_columns m_cells m_cursor m_locked_8 m_insert m_alarms m_rejects m_latest m_thrown m_streamLong m_at m_place m_orders m_escaped m_broken m_signBefore m_free m_waitsLong m_cutOff m_screen m_stream m_waits) := hD
    have hf := Option.some.inj hf
    subst hf
    exact my_reti () hx hb hr hlocks hK hP hD hS rfl dX6_eraseToEnd_15

theorem uu_X6_deleteSign_X6 : ∀ w ∈ u_ws RX6 TX6 25, w ∈ wsX6_deleteSign := fun _ h => List.mem_cons_of_mem _ (List.mem_append_right _ h)
def f_X6_deleteSign_L49 (m_columns : Int32) (m_cells : Int32) (m_cursor : Int32) : Nat → Int32 → Int32 → Bool → (Nat → Int32) → Option (Int32 × Bool × (Nat → Int32))
  | 0, _, _, _, _ => none
  | fu + 1, v1, v3, z_m_locked, z_m_screen =>
    if v1 ≤ v3 then
    Option.bind (f_X6_modify m_cells z_m_screen m_cursor) (fun m_screen_2 =>
    some (1, z_m_locked, m_screen_2))
    else
    if v1 ≤ (v3 + 1) then
    if (m_cursor + v3) < 0 ∨ 5676 ≤ (m_cursor + v3).toNatClampNeg then none else
    f_X6_deleteSign_L49 m_columns m_cells m_cursor fu v1 (v3 + 1) z_m_locked (upd z_m_screen (m_cursor + v3).toNatClampNeg 0)
    else
    if ((m_cursor + v3) + 1) < 0 ∨ 5676 ≤ ((m_cursor + v3) + 1).toNatClampNeg then none else
    if (m_cursor + v3) < 0 ∨ 5676 ≤ (m_cursor + v3).toNatClampNeg then none else
    f_X6_deleteSign_L49 m_columns m_cells m_cursor fu v1 (v3 + 1) z_m_locked (upd z_m_screen (m_cursor + v3).toNatClampNeg (z_m_screen ((m_cursor + v3) + 1).toNatClampNeg))
def f_X6_deleteSign (m_columns : Int32) (m_cells : Int32) (m_cursor : Int32) (m_locked : Bool) (m_screen : Nat → Int32) : Option (Int32 × Bool × (Nat → Int32)) :=
    Option.bind (f_X6_mayBeTyped m_cells m_screen m_cursor) (fun r_7 =>
    if (b2i r_7) = 0 then
    thn (f_X6_refuse m_locked) (fun (r_12, m_locked_12) =>
    some (r_12, m_locked_12, m_screen))
    else
    Option.bind (f_X6_toEnd m_cells m_screen m_cursor) (fun r_9 =>
    if m_columns = 0 then none else
    if r_9 ≤ (m_columns - (m_cursor - m_cursor / m_columns * m_columns)) then
    f_X6_deleteSign_L49 m_columns m_cells m_cursor FU r_9 0 m_locked m_screen
    else
    f_X6_deleteSign_L49 m_columns m_cells m_cursor FU (m_columns - (m_cursor - m_cursor / m_columns * m_columns)) 0 m_locked m_screen))
set_option maxHeartbeats 400000 in
set_option maxRecDepth 100000 in
theorem c_X6_deleteSign (l : Launch) (dC : Nat → ClassId) (dI : Nat → Nat → Nat) (cI : ClassId) (hM hR hT hZ : Nat) (m_allRows : Int32) (m_allColumns : Int32) (m_rows : Int32) (m_columns : Int32) (m_cells : Int32) (m_cursor : Int32) (m_locked : Bool) (m_insert : Bool) (m_alarms : Int32) (m_rejects : Int32) (m_latest : Int32) (m_thrown : Int32) (m_streamLong : Int32) (m_at : Int32) (m_place : Int32) (m_orders : Int32) (m_escaped : Bool) (m_broken : Bool) (m_signBefore : Bool) (m_free : Bool) (m_waitsLong : Int32) (m_cutOff : Bool) (m_screen : Nat → Int32) (m_stream : Nat → Int32) (m_waits : Nat → Int32) (sz : Nat)  (res : Int32 × Bool × (Nat → Int32)) (hf : f_X6_deleteSign m_columns m_cells m_cursor m_locked m_screen = some res) : Met l yX6_deleteSign wsX6_deleteSign ({ frames := 5, cells := 0, slots := 0, locals := 107 }) (va_Pc [.ref hM] (my_Pre (dC, dI) [(cI, .int)] (wM hM hR hT hZ cI m_allRows m_allColumns m_rows m_columns m_cells m_cursor m_locked m_insert m_alarms m_rejects m_latest m_thrown m_streamLong m_at m_place m_orders m_escaped m_broken m_signBefore m_free m_waitsLong m_cutOff m_screen m_stream m_waits) sz)) (my_Qi (S := Unit) (dC, dI) [(cI, .int)] res.1 (fun _ => wM hM hR hT hZ cI m_allRows m_allColumns m_rows m_columns m_cells m_cursor res.2.1 m_insert m_alarms m_rejects m_latest m_thrown m_streamLong m_at m_place m_orders m_escaped m_broken m_signBefore m_free m_waitsLong m_cutOff res.2.2 m_stream m_waits) (va_A (wM hM hR hT hZ cI m_allRows m_allColumns m_rows m_columns m_cells m_cursor m_locked m_insert m_alarms m_rejects m_latest m_thrown m_streamLong m_at m_place m_orders m_escaped m_broken m_signBefore m_free m_waitsLong m_cutOff m_screen m_stream m_waits) sz)) 0 0 (va_A (wM hM hR hT hZ cI m_allRows m_allColumns m_rows m_columns m_cells m_cursor m_locked m_insert m_alarms m_rejects m_latest m_thrown m_streamLong m_at m_place m_orders m_escaped m_broken m_signBefore m_free m_waitsLong m_cutOff m_screen m_stream m_waits) sz) := by
  refine my_enter (cc := cX6_deleteSign) (maxL := 4) (ret := (some .int)) (Qc := my_Qi (S := Unit) (dC, dI) [(cI, .int)] res.1 (fun _ => wM hM hR hT hZ cI m_allRows m_allColumns m_rows m_columns m_cells m_cursor res.2.1 m_insert m_alarms m_rejects m_latest m_thrown m_streamLong m_at m_place m_orders m_escaped m_broken m_signBefore m_free m_waitsLong m_cutOff res.2.2 m_stream m_waits)) (by decide) rfl (Nat.le_of_ble_eq_true rfl) ?_
  intro p e s m below meth c A ls hx hb hr hml hts hown hlocks hnm hP hK hD hA hS hl
  have hown : s.vm.findClass RX6 = some m.cls := hown
  have hl : lv_has ls 4 [(0, .ref hM)] := hl
  have L49 : ∀ (fu : Nat) (v1 : Int32) (v3 : Int32) (z_m_locked : Bool) (z_m_screen : Nat → Int32)  (H : Heap) (locs : List Loc), f_X6_deleteSign_L49 m_columns m_cells m_cursor fu v1 v3 z_m_locked z_m_screen = some res → va_P (dC, dI) vwCl (wM hM hR hT hZ cI m_allRows m_allColumns m_rows m_columns m_cells m_cursor z_m_locked m_insert m_alarms m_rejects m_latest m_thrown m_streamLong m_at m_place m_orders m_escaped m_broken m_signBefore m_free m_waitsLong m_cutOff z_m_screen m_stream m_waits) H → va_D A (wM hM hR hT hZ cI m_allRows m_allColumns m_rows m_columns m_cells m_cursor z_m_locked m_insert m_alarms m_rejects m_latest m_thrown m_streamLong m_at m_place m_orders m_escaped m_broken m_signBefore m_free m_waitsLong m_cutOff z_m_screen m_stream m_waits) → va_S A s.heap H locs → ∀ (ls : Array Slot), lv_has ls 4 [(0, .ref hM), (1, .int v1), (3, .int v3)] → W p l e (headSpec wsX6_deleteSign ({ frames := 5, cells := 0, slots := 0, locals := 107 })).room s m ([.ref hM] : List Value).toArray below meth c H locs 0 0 (MQ below (my_Qi (S := Unit) (dC, dI) [(cI, .int)] res.1 (fun _ => wM hM hR hT hZ cI m_allRows m_allColumns m_rows m_columns m_cells m_cursor res.2.1 m_insert m_alarms m_rejects m_latest m_thrown m_streamLong m_at m_place m_orders m_escaped m_broken m_signBefore m_free m_waitsLong m_cutOff res.2.2 m_stream m_waits) A) ([.ref hM] : List Value).toArray s 0 0 A) (F0 m 49 ls []) := by
    intro fu
    induction fu with
    | zero =>
      intro v1 v3 z_m_locked z_m_screen H locs hf
      rw [f_X6_deleteSign_L49.eq_1] at hf
      cases hf
    | succ fu ih =>
      intro v1 v3 z_m_locked z_m_screen H locs hf  hP hD hS ls hl
      rw [f_X6_deleteSign_L49.eq_2] at hf
      refine lv_iload_n hx hb dX6_deleteSign_49 rfl (lv_at hl 2 rfl) ?_
      refine lv_iload_n hx hb dX6_deleteSign_50 rfl (lv_at hl 1 rfl) ?_
      refine lv_icmp_ge (tgt := 95) hx hb dX6_deleteSign_51 (by decide) (fun c_1 => ?_) (fun c_1 => ?_)
      · have hf := (if_pos c_1).symm.trans hf
        refine lv_aload_n hx hb dX6_deleteSign_95 rfl (lv_at hl 0 rfl) ?_
        refine lv_aload_n hx hb dX6_deleteSign_96 rfl (lv_at hl 0 rfl) ?_
        refine va_get (D := (dC, dI)) (ci := 7) (v := .int m_cursor) (C := RX6) (T := TX6) (N := 25) hx hb hts uu_X6_deleteSign_X6 hown hK hP 0 rfl rfl 5 (by decide) (hts (.fieldLink RX6 49 "BlockScreenModel" "cursor" "I") (List.mem_of_getElem? (i := 1) rfl)) (fun _ h9 => h9) rfl dX6_deleteSign_97 ?_
        obtain ⟨m_screen_2, hq_2, hf⟩ := ob_inv hf
        refine my_cVv (As := [.int m_cursor]) (rest := []) ⟨hx, hb, hml, hown, hts⟩ (c_X6_modify l dC dI cI hM hR hT hZ m_allRows m_allColumns m_rows m_columns m_cells m_cursor z_m_locked m_insert m_alarms m_rejects m_latest m_thrown m_streamLong m_at m_place m_orders m_escaped m_broken m_signBefore m_free m_waitsLong m_cutOff z_m_screen m_stream m_waits _ m_cursor m_screen_2 hq_2) (cwV 1 hts gX6_deleteSign_X6_modify rfl rfl rfl (by decide +kernel) ⟨Nat.le_of_ble_eq_true rfl, Nat.le_of_ble_eq_true rfl⟩) hK hP hD hS hA 0 7 rfl rfl rfl hl.1 rfl (Nat.le_of_ble_eq_true rfl) dX6_deleteSign_100 ⟨Nat.zero_le _, Nat.zero_le _⟩ (fun _ H locs hP hD hS => ?_)
        have hP : va_P (dC, dI) vwCl (wM hM hR hT hZ cI m_allRows m_allColumns m_rows m_columns m_cells m_cursor z_m_locked m_insert m_alarms m_rejects m_latest m_thrown m_streamLong m_at m_place m_orders m_escaped m_broken m_signBefore m_free m_waitsLong m_cutOff m_screen_2 m_stream m_waits) H := hP
        have hD : va_D A (wM hM hR hT hZ cI m_allRows m_allColumns m_rows m_columns m_cells m_cursor z_m_locked m_insert m_alarms m_rejects m_latest m_thrown m_streamLong m_at m_place m_orders m_escaped m_broken m_signBefore m_free m_waitsLong m_cutOff m_screen_2 m_stream m_waits) := hD
        refine lv_iconst (v := 1) hx hb dX6_deleteSign_103 (by decide) ?_
        have hf := Option.some.inj hf
        subst hf
        exact my_reti () hx hb hr hlocks hK hP hD hS rfl dX6_deleteSign_104
      · have hf := (if_neg c_1).symm.trans hf
        refine lv_aload_n hx hb dX6_deleteSign_54 rfl (lv_at hl 0 rfl) ?_
        refine va_get (D := (dC, dI)) (ci := 7) (v := .ref hR) (C := RX6) (T := TX6) (N := 25) hx hb hts uu_X6_deleteSign_X6 hown hK hP 0 rfl rfl 6 (by decide) (hts (.fieldLink RX6 7 "BlockScreenModel" "screen" "[I") (List.mem_of_getElem? (i := 3) rfl)) (fun _ h9 => h9) rfl dX6_deleteSign_55 ?_
        refine lv_aload_n hx hb dX6_deleteSign_58 rfl (lv_at hl 0 rfl) ?_
        refine va_get (D := (dC, dI)) (ci := 7) (v := .int m_cursor) (C := RX6) (T := TX6) (N := 25) hx hb hts uu_X6_deleteSign_X6 hown hK hP 0 rfl rfl 5 (by decide) (hts (.fieldLink RX6 49 "BlockScreenModel" "cursor" "I") (List.mem_of_getElem? (i := 1) rfl)) (fun _ h9 => h9) rfl dX6_deleteSign_59 ?_
        refine lv_iload_n hx hb dX6_deleteSign_62 rfl (lv_at hl 2 rfl) ?_
        refine lv_iadd hx hb dX6_deleteSign_63 ?_
        refine lv_iload_n hx hb dX6_deleteSign_64 rfl (lv_at hl 2 rfl) ?_
        refine lv_iconst (v := 1) hx hb dX6_deleteSign_65 (by decide) ?_
        refine lv_iadd hx hb dX6_deleteSign_66 ?_
        refine lv_iload_n hx hb dX6_deleteSign_67 rfl (lv_at hl 1 rfl) ?_
        refine lv_icmp_ge (tgt := 87) hx hb dX6_deleteSign_68 (by decide) (fun c_3 => ?_) (fun c_3 => ?_)
        · have hf := (if_pos c_3).symm.trans hf
          refine lv_iconst (v := 0) hx hb dX6_deleteSign_87 (by decide) ?_
          rcases Classical.em ((m_cursor + v3) < 0 ∨ 5676 ≤ (m_cursor + v3).toNatClampNeg) with c_4 | c_4
          · exact nn_abs ((if_pos c_4).symm.trans hf)
          have hf := (if_neg c_4).symm.trans hf
          refine va_iast hx hb hK hP hD hS 1 0 rfl rfl c_4 dX6_deleteSign_88 (fun H locs hP hD hS => ?_)
          have hP : va_P (dC, dI) vwCl (wM hM hR hT hZ cI m_allRows m_allColumns m_rows m_columns m_cells m_cursor z_m_locked m_insert m_alarms m_rejects m_latest m_thrown m_streamLong m_at m_place m_orders m_escaped m_broken m_signBefore m_free m_waitsLong m_cutOff (upd z_m_screen (m_cursor + v3).toNatClampNeg 0) m_stream m_waits) H := hP
          have hD : va_D A (wM hM hR hT hZ cI m_allRows m_allColumns m_rows m_columns m_cells m_cursor z_m_locked m_insert m_alarms m_rejects m_latest m_thrown m_streamLong m_at m_place m_orders m_escaped m_broken m_signBefore m_free m_waitsLong m_cutOff (upd z_m_screen (m_cursor + v3).toNatClampNeg 0) m_stream m_waits) := hD
          refine lv_iinc (v := v3 + 1) (lv' := [(3, .int (v3 + 1)), (0, .ref hM), (1, .int v1)]) hx hb dX6_deleteSign_89 hl (k := 2) rfl rfl (by decide) rfl (fun ls hl => ?_)
          refine lv_goto (tgt := 49) hx hb dX6_deleteSign_92 (by decide) ?_
          exact ih v1 (v3 + 1) z_m_locked (upd z_m_screen (m_cursor + v3).toNatClampNeg 0) _ _ hf  hP hD hS ls (lv_sub hl [1, 2, 0] rfl)
        · have hf := (if_neg c_3).symm.trans hf
          refine lv_aload_n hx hb dX6_deleteSign_71 rfl (lv_at hl 0 rfl) ?_
          refine va_get (D := (dC, dI)) (ci := 7) (v := .ref hR) (C := RX6) (T := TX6) (N := 25) hx hb hts uu_X6_deleteSign_X6 hown hK hP 0 rfl rfl 6 (by decide) (hts (.fieldLink RX6 7 "BlockScreenModel" "screen" "[I") (List.mem_of_getElem? (i := 3) rfl)) (fun _ h9 => h9) rfl dX6_deleteSign_72 ?_
          refine lv_aload_n hx hb dX6_deleteSign_75 rfl (lv_at hl 0 rfl) ?_
          refine va_get (D := (dC, dI)) (ci := 7) (v := .int m_cursor) (C := RX6) (T := TX6) (N := 25) hx hb hts uu_X6_deleteSign_X6 hown hK hP 0 rfl rfl 5 (by decide) (hts (.fieldLink RX6 49 "BlockScreenModel" "cursor" "I") (List.mem_of_getElem? (i := 1) rfl)) (fun _ h9 => h9) rfl dX6_deleteSign_76 ?_
          refine lv_iload_n hx hb dX6_deleteSign_79 rfl (lv_at hl 2 rfl) ?_
          refine lv_iadd hx hb dX6_deleteSign_80 ?_
          refine lv_iconst (v := 1) hx hb dX6_deleteSign_81 (by decide) ?_
          refine lv_iadd hx hb dX6_deleteSign_82 ?_
          rcases Classical.em (((m_cursor + v3) + 1) < 0 ∨ 5676 ≤ ((m_cursor + v3) + 1).toNatClampNeg) with c_5 | c_5
          · exact nn_abs ((if_pos c_5).symm.trans hf)
          have hf := (if_neg c_5).symm.trans hf
          refine va_iald hx hb hK hP 1 0 rfl rfl c_5 dX6_deleteSign_83 ?_
          refine lv_goto (tgt := 88) hx hb dX6_deleteSign_84 (by decide) ?_
          rcases Classical.em ((m_cursor + v3) < 0 ∨ 5676 ≤ (m_cursor + v3).toNatClampNeg) with c_6 | c_6
          · exact nn_abs ((if_pos c_6).symm.trans hf)
          have hf := (if_neg c_6).symm.trans hf
          refine va_iast hx hb hK hP hD hS 1 0 rfl rfl c_6 dX6_deleteSign_88 (fun H locs hP hD hS => ?_)
          have hP : va_P (dC, dI) vwCl (wM hM hR hT hZ cI m_allRows m_allColumns m_rows m_columns m_cells m_cursor z_m_locked m_insert m_alarms m_rejects m_latest m_thrown m_streamLong m_at m_place m_orders m_escaped m_broken m_signBefore m_free m_waitsLong m_cutOff (upd z_m_screen (m_cursor + v3).toNatClampNeg (z_m_screen ((m_cursor + v3) + 1).toNatClampNeg)) m_stream m_waits) H := hP
          have hD : va_D A (wM hM hR hT hZ cI m_allRows m_allColumns m_rows m_columns m_cells m_cursor z_m_locked m_insert m_alarms m_rejects m_latest m_thrown m_streamLong m_at m_place m_orders m_escaped m_broken m_signBefore m_free m_waitsLong m_cutOff (upd z_m_screen (m_cursor + v3).toNatClampNeg (z_m_screen ((m_cursor + v3) + 1).toNatClampNeg)) m_stream m_waits) := hD
          refine lv_iinc (v := v3 + 1) (lv' := [(3, .int (v3 + 1)), (0, .ref hM), (1, .int v1)]) hx hb dX6_deleteSign_89 hl (k := 2) rfl rfl (by decide) rfl (fun ls hl => ?_)
          refine lv_goto (tgt := 49) hx hb dX6_deleteSign_92 (by decide) ?_
          exact ih v1 (v3 + 1) z_m_locked (upd z_m_screen (m_cursor + v3).toNatClampNeg (z_m_screen ((m_cursor + v3) + 1).toNatClampNeg)) _ _ hf  hP hD hS ls (lv_sub hl [1, 2, 0] rfl)
  unfold f_X6_deleteSign at hf
  refine lv_aload_n hx hb dX6_deleteSign_0 rfl (lv_at hl 0 rfl) ?_
  refine lv_aload_n hx hb dX6_deleteSign_1 rfl (lv_at hl 0 rfl) ?_
  refine va_get (D := (dC, dI)) (ci := 7) (v := .int m_cursor) (C := RX6) (T := TX6) (N := 25) hx hb hts uu_X6_deleteSign_X6 hown hK hP 0 rfl rfl 5 (by decide) (hts (.fieldLink RX6 49 "BlockScreenModel" "cursor" "I") (List.mem_of_getElem? (i := 1) rfl)) (fun _ h9 => h9) rfl dX6_deleteSign_2 ?_
  obtain ⟨r_7, hq_7, hf⟩ := ob_inv hf
  refine my_cVi (As := [.int m_cursor]) (rest := []) ⟨hx, hb, hml, hown, hts⟩ (c_X6_mayBeTyped l dC dI cI hM hR hT hZ m_allRows m_allColumns m_rows m_columns m_cells m_cursor m_locked m_insert m_alarms m_rejects m_latest m_thrown m_streamLong m_at m_place m_orders m_escaped m_broken m_signBefore m_free m_waitsLong m_cutOff m_screen m_stream m_waits _ m_cursor r_7 hq_7) (cwV 1 hts gX6_deleteSign_X6_mayBeTyped rfl rfl rfl (by decide +kernel) ⟨Nat.le_of_ble_eq_true rfl, Nat.le_of_ble_eq_true rfl⟩) hK hP hD hS hA 0 7 rfl rfl rfl hl.1 rfl (Nat.le_of_ble_eq_true rfl) dX6_deleteSign_5 ⟨Nat.zero_le _, Nat.zero_le _⟩ (fun _ H locs hP hD hS => ?_)
  have hP : va_P (dC, dI) vwCl (wM hM hR hT hZ cI m_allRows m_allColumns m_rows m_columns m_cells m_cursor m_locked m_insert m_alarms m_rejects m_latest m_thrown m_streamLong m_at m_place m_orders m_escaped m_broken m_signBefore m_free m_waitsLong m_cutOff m_screen m_stream m_waits) H := hP
  have hD : va_D A (wM hM hR hT hZ cI m_allRows m_allColumns m_rows m_columns m_cells m_cursor m_locked m_insert m_alarms m_rejects m_latest m_thrown m_streamLong m_at m_place m_orders m_escaped m_broken m_signBefore m_free m_waitsLong m_cutOff m_screen m_stream m_waits) := hD
  refine lv_if_ne (tgt := 16) hx hb dX6_deleteSign_8 (by decide) (fun c_8 => ?_) (fun c_8 => ?_)
  · have hf := (if_neg c_8).symm.trans hf
    refine lv_aload_n hx hb dX6_deleteSign_16 rfl (lv_at hl 0 rfl) ?_
    refine lv_aload_n hx hb dX6_deleteSign_17 rfl (lv_at hl 0 rfl) ?_
    refine va_get (D := (dC, dI)) (ci := 7) (v := .int m_cursor) (C := RX6) (T := TX6) (N := 25) hx hb hts uu_X6_deleteSign_X6 hown hK hP 0 rfl rfl 5 (by decide) (hts (.fieldLink RX6 49 "BlockScreenModel" "cursor" "I") (List.mem_of_getElem? (i := 1) rfl)) (fun _ h9 => h9) rfl dX6_deleteSign_18 ?_
    obtain ⟨r_9, hq_9, hf⟩ := ob_inv hf
    refine my_cVi (As := [.int m_cursor]) (rest := []) ⟨hx, hb, hml, hown, hts⟩ (c_X6_toEnd l dC dI cI hM hR hT hZ m_allRows m_allColumns m_rows m_columns m_cells m_cursor m_locked m_insert m_alarms m_rejects m_latest m_thrown m_streamLong m_at m_place m_orders m_escaped m_broken m_signBefore m_free m_waitsLong m_cutOff m_screen m_stream m_waits _ m_cursor r_9 hq_9) (cwV 1 hts gX6_deleteSign_X6_toEnd rfl rfl rfl (by decide +kernel) ⟨Nat.le_of_ble_eq_true rfl, Nat.le_of_ble_eq_true rfl⟩) hK hP hD hS hA 0 7 rfl rfl rfl hl.1 rfl (Nat.le_of_ble_eq_true rfl) dX6_deleteSign_21 ⟨Nat.zero_le _, Nat.zero_le _⟩ (fun _ H locs hP hD hS => ?_)
    have hP : va_P (dC, dI) vwCl (wM hM hR hT hZ cI m_allRows m_allColumns m_rows m_columns m_cells m_cursor m_locked m_insert m_alarms m_rejects m_latest m_thrown m_streamLong m_at m_place m_orders m_escaped m_broken m_signBefore m_free m_waitsLong m_cutOff m_screen m_stream m_waits) H := hP
    have hD : va_D A (wM hM hR hT hZ cI m_allRows m_allColumns m_rows m_columns m_cells m_cursor m_locked m_insert m_alarms m_rejects m_latest m_thrown m_streamLong m_at m_place m_orders m_escaped m_broken m_signBefore m_free m_waitsLong m_cutOff m_screen m_stream m_waits) := hD
    refine lv_istore_n (lv' := [(1, .int r_9), (0, .ref hM)]) hx hb dX6_deleteSign_24 rfl hl (by decide) rfl (fun ls hl => ?_)
    refine lv_aload_n hx hb dX6_deleteSign_25 rfl (lv_at hl 1 rfl) ?_
    refine va_get (D := (dC, dI)) (ci := 7) (v := .int m_columns) (C := RX6) (T := TX6) (N := 25) hx hb hts uu_X6_deleteSign_X6 hown hK hP 0 rfl rfl 3 (by decide) (hts (.fieldLink RX6 43 "BlockScreenModel" "columns" "I") (List.mem_of_getElem? (i := 2) rfl)) (fun _ h9 => h9) rfl dX6_deleteSign_26 ?_
    refine lv_aload_n hx hb dX6_deleteSign_29 rfl (lv_at hl 1 rfl) ?_
    refine va_get (D := (dC, dI)) (ci := 7) (v := .int m_cursor) (C := RX6) (T := TX6) (N := 25) hx hb hts uu_X6_deleteSign_X6 hown hK hP 0 rfl rfl 5 (by decide) (hts (.fieldLink RX6 49 "BlockScreenModel" "cursor" "I") (List.mem_of_getElem? (i := 1) rfl)) (fun _ h9 => h9) rfl dX6_deleteSign_30 ?_
    refine lv_aload_n hx hb dX6_deleteSign_33 rfl (lv_at hl 1 rfl) ?_
    refine va_get (D := (dC, dI)) (ci := 7) (v := .int m_columns) (C := RX6) (T := TX6) (N := 25) hx hb hts uu_X6_deleteSign_X6 hown hK hP 0 rfl rfl 3 (by decide) (hts (.fieldLink RX6 43 "BlockScreenModel" "columns" "I") (List.mem_of_getElem? (i := 2) rfl)) (fun _ h9 => h9) rfl dX6_deleteSign_34 ?_
    rcases Classical.em (m_columns = 0) with c_10 | c_10
    · exact nn_abs ((if_pos c_10).symm.trans hf)
    have hf := (if_neg c_10).symm.trans hf
    refine lv_irem hx hb dX6_deleteSign_37 c_10 ?_
    refine lv_isub hx hb dX6_deleteSign_38 ?_
    refine lv_istore_n (lv' := [(2, .int (m_columns - (m_cursor - m_cursor / m_columns * m_columns))), (1, .int r_9), (0, .ref hM)]) hx hb dX6_deleteSign_39 rfl hl (by decide) rfl (fun ls hl => ?_)
    refine lv_iload_n hx hb dX6_deleteSign_40 rfl (lv_at hl 0 rfl) ?_
    refine lv_iload_n hx hb dX6_deleteSign_41 rfl (lv_at hl 1 rfl) ?_
    refine lv_icmp_ge (tgt := 47) hx hb dX6_deleteSign_42 (by decide) (fun c_11 => ?_) (fun c_11 => ?_)
    · have hf := (if_pos c_11).symm.trans hf
      refine lv_iconst (v := 0) hx hb dX6_deleteSign_47 (by decide) ?_
      refine lv_istore_n (lv' := [(3, .int 0), (2, .int (m_columns - (m_cursor - m_cursor / m_columns * m_columns))), (1, .int r_9), (0, .ref hM)]) hx hb dX6_deleteSign_48 rfl hl (by decide) rfl (fun ls hl => ?_)
      exact L49 FU r_9 0 m_locked m_screen _ _ hf  hP hD hS ls (lv_sub hl [3, 2, 0] rfl)
    · have hf := (if_neg c_11).symm.trans hf
      refine lv_iload_n hx hb dX6_deleteSign_45 rfl (lv_at hl 0 rfl) ?_
      refine lv_istore_n (lv' := [(1, .int (m_columns - (m_cursor - m_cursor / m_columns * m_columns))), (2, .int (m_columns - (m_cursor - m_cursor / m_columns * m_columns))), (0, .ref hM)]) hx hb dX6_deleteSign_46 rfl hl (by decide) rfl (fun ls hl => ?_)
      refine lv_iconst (v := 0) hx hb dX6_deleteSign_47 (by decide) ?_
      refine lv_istore_n (lv' := [(3, .int 0), (1, .int (m_columns - (m_cursor - m_cursor / m_columns * m_columns))), (2, .int (m_columns - (m_cursor - m_cursor / m_columns * m_columns))), (0, .ref hM)]) hx hb dX6_deleteSign_48 rfl hl (by decide) rfl (fun ls hl => ?_)
      exact L49 FU (m_columns - (m_cursor - m_cursor / m_columns * m_columns)) 0 m_locked m_screen _ _ hf  hP hD hS ls (lv_sub hl [3, 1, 0] rfl)
  · have hf := (if_pos c_8).symm.trans hf
    refine lv_aload_n hx hb dX6_deleteSign_11 rfl (lv_at hl 0 rfl) ?_
    obtain ⟨⟨r_12, m_locked_12⟩, hq_12, hf⟩ := th_inv hf
    refine my_cVi (As := []) (rest := []) ⟨hx, hb, hml, hown, hts⟩ (c_X6_refuse l dC dI cI hM hR hT hZ m_allRows m_allColumns m_rows m_columns m_cells m_cursor m_locked m_insert m_alarms m_rejects m_latest m_thrown m_streamLong m_at m_place m_orders m_escaped m_broken m_signBefore m_free m_waitsLong m_cutOff m_screen m_stream m_waits _  (r_12, m_locked_12) hq_12) (cwV 0 hts gX6_deleteSign_X6_refuse rfl rfl rfl (by decide +kernel) ⟨Nat.le_of_ble_eq_true rfl, Nat.le_of_ble_eq_true rfl⟩) hK hP hD hS hA 0 7 rfl rfl rfl hl.1 rfl (Nat.le_of_ble_eq_true rfl) dX6_deleteSign_12 ⟨Nat.zero_le _, Nat.zero_le _⟩ (fun _ H locs hP hD hS => ?_)
    have hP : va_P (dC, dI) vwCl (wM hM hR hT hZ cI m_allRows m_allColumns m_rows m_columns m_cells m_cursor m_locked_12 m_insert m_alarms m_rejects m_latest m_thrown m_streamLong m_at m_place m_orders m_escaped m_broken m_signBefore m_free m_waitsLong m_cutOff m_screen m_stream m_waits) H := hP
    have hD : va_D A (wM hM hR hT hZ cI m_allRows m_allColumns m_rows m_columns m_cells m_cursor m_locked_12 m_insert m_alarms m_rejects m_latest m_thrown m_streamLong m_at m_place m_orders m_escaped m_broken m_signBefore m_free m_waitsLong m_cutOff m_screen m_stream m_waits) := hD
    have hf := Option.some.inj hf
    subst hf
    exact my_reti () hx hb hr hlocks hK hP hD hS rfl dX6_deleteSign_15

def f_X6_sendingKey (a1 : Int32) : Int32 :=
    if a1 = 1 then
    125
    else
    if a1 < 11 then
    if a1 < 20 then
    (-1)
    else
    if 22 < a1 then
    (-1)
    else
    (102 + a1)
    else
    if 19 < a1 then
    if a1 < 20 then
    (-1)
    else
    if 22 < a1 then
    (-1)
    else
    (102 + a1)
    else
    (230 + a1)
set_option maxHeartbeats 400000 in
set_option maxRecDepth 100000 in
theorem c_X6_sendingKey (l : Launch) (dC : Nat → ClassId) (dI : Nat → Nat → Nat) (cI : ClassId) (hM hR hT hZ : Nat) (m_allRows : Int32) (m_allColumns : Int32) (m_rows : Int32) (m_columns : Int32) (m_cells : Int32) (m_cursor : Int32) (m_locked : Bool) (m_insert : Bool) (m_alarms : Int32) (m_rejects : Int32) (m_latest : Int32) (m_thrown : Int32) (m_streamLong : Int32) (m_at : Int32) (m_place : Int32) (m_orders : Int32) (m_escaped : Bool) (m_broken : Bool) (m_signBefore : Bool) (m_free : Bool) (m_waitsLong : Int32) (m_cutOff : Bool) (m_screen : Nat → Int32) (m_stream : Nat → Int32) (m_waits : Nat → Int32) (sz : Nat) (a1 : Int32) (res : Int32) (hf : f_X6_sendingKey  a1 = res) : Met l yX6_sendingKey wsX6_sendingKey ({ frames := 0, cells := 0, slots := 0, locals := 0 }) (va_Pc [.int a1] (my_Pre (dC, dI) [(cI, .int)] (wM hM hR hT hZ cI m_allRows m_allColumns m_rows m_columns m_cells m_cursor m_locked m_insert m_alarms m_rejects m_latest m_thrown m_streamLong m_at m_place m_orders m_escaped m_broken m_signBefore m_free m_waitsLong m_cutOff m_screen m_stream m_waits) sz)) (my_Qi (S := Unit) (dC, dI) [(cI, .int)] res (fun _ => wM hM hR hT hZ cI m_allRows m_allColumns m_rows m_columns m_cells m_cursor m_locked m_insert m_alarms m_rejects m_latest m_thrown m_streamLong m_at m_place m_orders m_escaped m_broken m_signBefore m_free m_waitsLong m_cutOff m_screen m_stream m_waits) (va_A (wM hM hR hT hZ cI m_allRows m_allColumns m_rows m_columns m_cells m_cursor m_locked m_insert m_alarms m_rejects m_latest m_thrown m_streamLong m_at m_place m_orders m_escaped m_broken m_signBefore m_free m_waitsLong m_cutOff m_screen m_stream m_waits) sz)) 0 0 (va_A (wM hM hR hT hZ cI m_allRows m_allColumns m_rows m_columns m_cells m_cursor m_locked m_insert m_alarms m_rejects m_latest m_thrown m_streamLong m_at m_place m_orders m_escaped m_broken m_signBefore m_free m_waitsLong m_cutOff m_screen m_stream m_waits) sz) := by
  refine my_enter (cc := cX6_sendingKey) (maxL := 1) (ret := (some .int)) (Qc := my_Qi (S := Unit) (dC, dI) [(cI, .int)] res (fun _ => wM hM hR hT hZ cI m_allRows m_allColumns m_rows m_columns m_cells m_cursor m_locked m_insert m_alarms m_rejects m_latest m_thrown m_streamLong m_at m_place m_orders m_escaped m_broken m_signBefore m_free m_waitsLong m_cutOff m_screen m_stream m_waits)) (by decide) rfl (Nat.le_of_ble_eq_true rfl) ?_
  intro p e s m below meth c A ls hx hb hr hml hts hown hlocks hnm hP hK hD hA hS hl
  have hown : s.vm.findClass RX6 = some m.cls := hown
  have hl : lv_has ls 1 [(0, .int a1)] := hl
  unfold f_X6_sendingKey at hf
  refine lv_iload_n hx hb dX6_sendingKey_0 rfl (lv_at hl 0 rfl) ?_
  refine lv_iconst (v := 1) hx hb dX6_sendingKey_1 (by decide) ?_
  refine lv_icmp_ne (tgt := 8) hx hb dX6_sendingKey_2 (by decide) (fun c_1 => ?_) (fun c_1 => ?_)
  · have hf := (if_neg c_1).symm.trans hf
    refine lv_iload_n hx hb dX6_sendingKey_8 rfl (lv_at hl 0 rfl) ?_
    refine lv_bipush (v := 11) hx hb dX6_sendingKey_9 (by decide) ?_
    refine lv_icmp_lt (tgt := 26) hx hb dX6_sendingKey_11 (by decide) (fun c_2 => ?_) (fun c_2 => ?_)
    · have hf := (if_pos c_2).symm.trans hf
      refine lv_iload_n hx hb dX6_sendingKey_26 rfl (lv_at hl 0 rfl) ?_
      refine lv_bipush (v := 20) hx hb dX6_sendingKey_27 (by decide) ?_
      refine lv_icmp_lt (tgt := 45) hx hb dX6_sendingKey_29 (by decide) (fun c_3 => ?_) (fun c_3 => ?_)
      · have hf := (if_pos c_3).symm.trans hf
        refine lv_iconst (v := (-1)) hx hb dX6_sendingKey_45 (by decide) ?_
        subst hf
        exact my_reti () hx hb hr hlocks hK hP hD hS rfl dX6_sendingKey_46
      · have hf := (if_neg c_3).symm.trans hf
        refine lv_iload_n hx hb dX6_sendingKey_32 rfl (lv_at hl 0 rfl) ?_
        refine lv_bipush (v := 22) hx hb dX6_sendingKey_33 (by decide) ?_
        refine lv_icmp_gt (tgt := 45) hx hb dX6_sendingKey_35 (by decide) (fun c_4 => ?_) (fun c_4 => ?_)
        · have hf := (if_pos c_4).symm.trans hf
          refine lv_iconst (v := (-1)) hx hb dX6_sendingKey_45 (by decide) ?_
          subst hf
          exact my_reti () hx hb hr hlocks hK hP hD hS rfl dX6_sendingKey_46
        · have hf := (if_neg c_4).symm.trans hf
          refine lv_bipush (v := 102) hx hb dX6_sendingKey_38 (by decide) ?_
          refine lv_iload_n hx hb dX6_sendingKey_40 rfl (lv_at hl 0 rfl) ?_
          refine lv_iadd hx hb dX6_sendingKey_41 ?_
          refine lv_goto (tgt := 46) hx hb dX6_sendingKey_42 (by decide) ?_
          subst hf
          exact my_reti () hx hb hr hlocks hK hP hD hS rfl dX6_sendingKey_46
    · have hf := (if_neg c_2).symm.trans hf
      refine lv_iload_n hx hb dX6_sendingKey_14 rfl (lv_at hl 0 rfl) ?_
      refine lv_bipush (v := 19) hx hb dX6_sendingKey_15 (by decide) ?_
      refine lv_icmp_gt (tgt := 26) hx hb dX6_sendingKey_17 (by decide) (fun c_5 => ?_) (fun c_5 => ?_)
      · have hf := (if_pos c_5).symm.trans hf
        refine lv_iload_n hx hb dX6_sendingKey_26 rfl (lv_at hl 0 rfl) ?_
        refine lv_bipush (v := 20) hx hb dX6_sendingKey_27 (by decide) ?_
        refine lv_icmp_lt (tgt := 45) hx hb dX6_sendingKey_29 (by decide) (fun c_6 => ?_) (fun c_6 => ?_)
        · have hf := (if_pos c_6).symm.trans hf
          refine lv_iconst (v := (-1)) hx hb dX6_sendingKey_45 (by decide) ?_
          subst hf
          exact my_reti () hx hb hr hlocks hK hP hD hS rfl dX6_sendingKey_46
        · have hf := (if_neg c_6).symm.trans hf
          refine lv_iload_n hx hb dX6_sendingKey_32 rfl (lv_at hl 0 rfl) ?_
          refine lv_bipush (v := 22) hx hb dX6_sendingKey_33 (by decide) ?_
          refine lv_icmp_gt (tgt := 45) hx hb dX6_sendingKey_35 (by decide) (fun c_7 => ?_) (fun c_7 => ?_)
          · have hf := (if_pos c_7).symm.trans hf
            refine lv_iconst (v := (-1)) hx hb dX6_sendingKey_45 (by decide) ?_
            subst hf
            exact my_reti () hx hb hr hlocks hK hP hD hS rfl dX6_sendingKey_46
          · have hf := (if_neg c_7).symm.trans hf
            refine lv_bipush (v := 102) hx hb dX6_sendingKey_38 (by decide) ?_
            refine lv_iload_n hx hb dX6_sendingKey_40 rfl (lv_at hl 0 rfl) ?_
            refine lv_iadd hx hb dX6_sendingKey_41 ?_
            refine lv_goto (tgt := 46) hx hb dX6_sendingKey_42 (by decide) ?_
            subst hf
            exact my_reti () hx hb hr hlocks hK hP hD hS rfl dX6_sendingKey_46
      · have hf := (if_neg c_5).symm.trans hf
        refine lv_sipush (v := 230) hx hb dX6_sendingKey_20 (by decide) ?_
        refine lv_iload_n hx hb dX6_sendingKey_23 rfl (lv_at hl 0 rfl) ?_
        refine lv_iadd hx hb dX6_sendingKey_24 ?_
        subst hf
        exact my_reti () hx hb hr hlocks hK hP hD hS rfl dX6_sendingKey_25
  · have hf := (if_pos c_1).symm.trans hf
    refine lv_bipush (v := 125) hx hb dX6_sendingKey_5 (by decide) ?_
    subst hf
    exact my_reti () hx hb hr hlocks hK hP hD hS rfl dX6_sendingKey_7

def f_X6_shortKey (a1 : Int32) : Int32 :=
    if a1 = 2 then
    109
    else
    if a1 = 3 then
    108
    else
    if a1 = 4 then
    110
    else
    if a1 = 5 then
    107
    else
    (-1)
set_option maxHeartbeats 400000 in
set_option maxRecDepth 100000 in
theorem c_X6_shortKey (l : Launch) (dC : Nat → ClassId) (dI : Nat → Nat → Nat) (cI : ClassId) (hM hR hT hZ : Nat) (m_allRows : Int32) (m_allColumns : Int32) (m_rows : Int32) (m_columns : Int32) (m_cells : Int32) (m_cursor : Int32) (m_locked : Bool) (m_insert : Bool) (m_alarms : Int32) (m_rejects : Int32) (m_latest : Int32) (m_thrown : Int32) (m_streamLong : Int32) (m_at : Int32) (m_place : Int32) (m_orders : Int32) (m_escaped : Bool) (m_broken : Bool) (m_signBefore : Bool) (m_free : Bool) (m_waitsLong : Int32) (m_cutOff : Bool) (m_screen : Nat → Int32) (m_stream : Nat → Int32) (m_waits : Nat → Int32) (sz : Nat) (a1 : Int32) (res : Int32) (hf : f_X6_shortKey  a1 = res) : Met l yX6_shortKey wsX6_shortKey ({ frames := 0, cells := 0, slots := 0, locals := 0 }) (va_Pc [.int a1] (my_Pre (dC, dI) [(cI, .int)] (wM hM hR hT hZ cI m_allRows m_allColumns m_rows m_columns m_cells m_cursor m_locked m_insert m_alarms m_rejects m_latest m_thrown m_streamLong m_at m_place m_orders m_escaped m_broken m_signBefore m_free m_waitsLong m_cutOff m_screen m_stream m_waits) sz)) (my_Qi (S := Unit) (dC, dI) [(cI, .int)] res (fun _ => wM hM hR hT hZ cI m_allRows m_allColumns m_rows m_columns m_cells m_cursor m_locked m_insert m_alarms m_rejects m_latest m_thrown m_streamLong m_at m_place m_orders m_escaped m_broken m_signBefore m_free m_waitsLong m_cutOff m_screen m_stream m_waits) (va_A (wM hM hR hT hZ cI m_allRows m_allColumns m_rows m_columns m_cells m_cursor m_locked m_insert m_alarms m_rejects m_latest m_thrown m_streamLong m_at m_place m_orders m_escaped m_broken m_signBefore m_free m_waitsLong m_cutOff m_screen m_stream m_waits) sz)) 0 0 (va_A (wM hM hR hT hZ cI m_allRows m_allColumns m_rows m_columns m_cells m_cursor m_locked m_insert m_alarms m_rejects m_latest m_thrown m_streamLong m_at m_place m_orders m_escaped m_broken m_signBefore m_free m_waitsLong m_cutOff m_screen m_stream m_waits) sz) := by
  refine my_enter (cc := cX6_shortKey) (maxL := 1) (ret := (some .int)) (Qc := my_Qi (S := Unit) (dC, dI) [(cI, .int)] res (fun _ => wM hM hR hT hZ cI m_allRows m_allColumns m_rows m_columns m_cells m_cursor m_locked m_insert m_alarms m_rejects m_latest m_thrown m_streamLong m_at m_place m_orders m_escaped m_broken m_signBefore m_free m_waitsLong m_cutOff m_screen m_stream m_waits)) (by decide) rfl (Nat.le_of_ble_eq_true rfl) ?_
  intro p e s m below meth c A ls hx hb hr hml hts hown hlocks hnm hP hK hD hA hS hl
  have hown : s.vm.findClass RX6 = some m.cls := hown
  have hl : lv_has ls 1 [(0, .int a1)] := hl
  unfold f_X6_shortKey at hf
  refine lv_iload_n hx hb dX6_shortKey_0 rfl (lv_at hl 0 rfl) ?_
  refine lv_iconst (v := 2) hx hb dX6_shortKey_1 (by decide) ?_
  refine lv_icmp_ne (tgt := 10) hx hb dX6_shortKey_2 (by decide) (fun c_1 => ?_) (fun c_1 => ?_)
  · have hf := (if_neg c_1).symm.trans hf
    refine lv_iload_n hx hb dX6_shortKey_10 rfl (lv_at hl 0 rfl) ?_
    refine lv_iconst (v := 3) hx hb dX6_shortKey_11 (by decide) ?_
    refine lv_icmp_ne (tgt := 20) hx hb dX6_shortKey_12 (by decide) (fun c_2 => ?_) (fun c_2 => ?_)
    · have hf := (if_neg c_2).symm.trans hf
      refine lv_iload_n hx hb dX6_shortKey_20 rfl (lv_at hl 0 rfl) ?_
      refine lv_iconst (v := 4) hx hb dX6_shortKey_21 (by decide) ?_
      refine lv_icmp_ne (tgt := 30) hx hb dX6_shortKey_22 (by decide) (fun c_3 => ?_) (fun c_3 => ?_)
      · have hf := (if_neg c_3).symm.trans hf
        refine lv_iload_n hx hb dX6_shortKey_30 rfl (lv_at hl 0 rfl) ?_
        refine lv_iconst (v := 5) hx hb dX6_shortKey_31 (by decide) ?_
        refine lv_icmp_ne (tgt := 40) hx hb dX6_shortKey_32 (by decide) (fun c_4 => ?_) (fun c_4 => ?_)
        · have hf := (if_neg c_4).symm.trans hf
          refine lv_iconst (v := (-1)) hx hb dX6_shortKey_40 (by decide) ?_
          subst hf
          exact my_reti () hx hb hr hlocks hK hP hD hS rfl dX6_shortKey_41
        · have hf := (if_pos c_4).symm.trans hf
          refine lv_bipush (v := 107) hx hb dX6_shortKey_35 (by decide) ?_
          refine lv_goto (tgt := 41) hx hb dX6_shortKey_37 (by decide) ?_
          subst hf
          exact my_reti () hx hb hr hlocks hK hP hD hS rfl dX6_shortKey_41
      · have hf := (if_pos c_3).symm.trans hf
        refine lv_bipush (v := 110) hx hb dX6_shortKey_25 (by decide) ?_
        refine lv_goto (tgt := 41) hx hb dX6_shortKey_27 (by decide) ?_
        subst hf
        exact my_reti () hx hb hr hlocks hK hP hD hS rfl dX6_shortKey_41
    · have hf := (if_pos c_2).symm.trans hf
      refine lv_bipush (v := 108) hx hb dX6_shortKey_15 (by decide) ?_
      refine lv_goto (tgt := 41) hx hb dX6_shortKey_17 (by decide) ?_
      subst hf
      exact my_reti () hx hb hr hlocks hK hP hD hS rfl dX6_shortKey_41
  · have hf := (if_pos c_1).symm.trans hf
    refine lv_bipush (v := 109) hx hb dX6_shortKey_5 (by decide) ?_
    refine lv_goto (tgt := 41) hx hb dX6_shortKey_7 (by decide) ?_
    subst hf
    exact my_reti () hx hb hr hlocks hK hP hD hS rfl dX6_shortKey_41

theorem uu_X6_move_X6 : ∀ w ∈ u_ws RX6 TX6 25, w ∈ wsX6_move := fun _ h => List.mem_cons_of_mem _ (List.mem_append_right _ h)
def f_X6_move (m_rows : Int32) (m_columns : Int32) (m_cells : Int32) (m_cursor : Int32) (m_screen : Nat → Int32) (a1 : Int32) : Option (Int32) :=
    if m_columns = 0 then none else
    if a1 = 40 then
    Option.bind (f_X6_tab m_cells m_screen m_cursor) (fun r_3 =>
    some r_3)
    else
    if a1 = 41 then
    Option.bind (f_X6_tabBack m_cells m_cursor m_screen) (fun r_5 =>
    some r_5)
    else
    if a1 = 42 then
    Option.bind (f_X6_nextLine m_rows m_columns m_cells m_cursor m_screen) (fun r_7 =>
    some r_7)
    else
    if a1 = 43 then
    Option.bind (f_X6_tab m_cells m_screen (m_cells - 1)) (fun r_9 =>
    some r_9)
    else
    if a1 = 44 then
    Option.bind (f_X6_round m_cells (m_cursor - 1)) (fun r_11 =>
    some r_11)
    else
    if a1 = 45 then
    Option.bind (f_X6_round m_cells (m_cursor + 1)) (fun r_13 =>
    some r_13)
    else
    if a1 = 46 then
    if m_rows = 0 then none else
    some ((((((m_cursor / m_columns) + m_rows) - 1) - (((m_cursor / m_columns) + m_rows) - 1) / m_rows * m_rows) * m_columns) + (m_cursor - m_cursor / m_columns * m_columns))
    else
    if m_rows = 0 then none else
    some (((((m_cursor / m_columns) + 1) - ((m_cursor / m_columns) + 1) / m_rows * m_rows) * m_columns) + (m_cursor - m_cursor / m_columns * m_columns))
set_option maxHeartbeats 400000 in
set_option maxRecDepth 100000 in
theorem c_X6_move (l : Launch) (dC : Nat → ClassId) (dI : Nat → Nat → Nat) (cI : ClassId) (hM hR hT hZ : Nat) (m_allRows : Int32) (m_allColumns : Int32) (m_rows : Int32) (m_columns : Int32) (m_cells : Int32) (m_cursor : Int32) (m_locked : Bool) (m_insert : Bool) (m_alarms : Int32) (m_rejects : Int32) (m_latest : Int32) (m_thrown : Int32) (m_streamLong : Int32) (m_at : Int32) (m_place : Int32) (m_orders : Int32) (m_escaped : Bool) (m_broken : Bool) (m_signBefore : Bool) (m_free : Bool) (m_waitsLong : Int32) (m_cutOff : Bool) (m_screen : Nat → Int32) (m_stream : Nat → Int32) (m_waits : Nat → Int32) (sz : Nat) (a1 : Int32) (res : Int32) (hf : f_X6_move m_rows m_columns m_cells m_cursor m_screen a1 = some res) : Met l yX6_move wsX6_move ({ frames := 6, cells := 0, slots := 0, locals := 129 }) (va_Pc [.ref hM, .int a1] (my_Pre (dC, dI) [(cI, .int)] (wM hM hR hT hZ cI m_allRows m_allColumns m_rows m_columns m_cells m_cursor m_locked m_insert m_alarms m_rejects m_latest m_thrown m_streamLong m_at m_place m_orders m_escaped m_broken m_signBefore m_free m_waitsLong m_cutOff m_screen m_stream m_waits) sz)) (my_Qi (S := Unit) (dC, dI) [(cI, .int)] res (fun _ => wM hM hR hT hZ cI m_allRows m_allColumns m_rows m_columns m_cells m_cursor m_locked m_insert m_alarms m_rejects m_latest m_thrown m_streamLong m_at m_place m_orders m_escaped m_broken m_signBefore m_free m_waitsLong m_cutOff m_screen m_stream m_waits) (va_A (wM hM hR hT hZ cI m_allRows m_allColumns m_rows m_columns m_cells m_cursor m_locked m_insert m_alarms m_rejects m_latest m_thrown m_streamLong m_at m_place m_orders m_escaped m_broken m_signBefore m_free m_waitsLong m_cutOff m_screen m_stream m_waits) sz)) 0 0 (va_A (wM hM hR hT hZ cI m_allRows m_allColumns m_rows m_columns m_cells m_cursor m_locked m_insert m_alarms m_rejects m_latest m_thrown m_streamLong m_at m_place m_orders m_escaped m_broken m_signBefore m_free m_waitsLong m_cutOff m_screen m_stream m_waits) sz) := by
  refine my_enter (cc := cX6_move) (maxL := 4) (ret := (some .int)) (Qc := my_Qi (S := Unit) (dC, dI) [(cI, .int)] res (fun _ => wM hM hR hT hZ cI m_allRows m_allColumns m_rows m_columns m_cells m_cursor m_locked m_insert m_alarms m_rejects m_latest m_thrown m_streamLong m_at m_place m_orders m_escaped m_broken m_signBefore m_free m_waitsLong m_cutOff m_screen m_stream m_waits)) (by decide) rfl (Nat.le_of_ble_eq_true rfl) ?_
  intro p e s m below meth c A ls hx hb hr hml hts hown hlocks hnm hP hK hD hA hS hl
  have hown : s.vm.findClass RX6 = some m.cls := hown
  have hl : lv_has ls 4 [(0, .ref hM), (1, .int a1)] := hl
  unfold f_X6_move at hf
  refine lv_aload_n hx hb dX6_move_0 rfl (lv_at hl 0 rfl) ?_
  refine va_get (D := (dC, dI)) (ci := 7) (v := .int m_cursor) (C := RX6) (T := TX6) (N := 25) hx hb hts uu_X6_move_X6 hown hK hP 0 rfl rfl 5 (by decide) (hts (.fieldLink RX6 49 "BlockScreenModel" "cursor" "I") (List.mem_of_getElem? (i := 1) rfl)) (fun _ h9 => h9) rfl dX6_move_1 ?_
  refine lv_aload_n hx hb dX6_move_4 rfl (lv_at hl 0 rfl) ?_
  refine va_get (D := (dC, dI)) (ci := 7) (v := .int m_columns) (C := RX6) (T := TX6) (N := 25) hx hb hts uu_X6_move_X6 hown hK hP 0 rfl rfl 3 (by decide) (hts (.fieldLink RX6 43 "BlockScreenModel" "columns" "I") (List.mem_of_getElem? (i := 2) rfl)) (fun _ h9 => h9) rfl dX6_move_5 ?_
  rcases Classical.em (m_columns = 0) with c_1 | c_1
  · exact nn_abs ((if_pos c_1).symm.trans hf)
  have hf := (if_neg c_1).symm.trans hf
  refine lv_idiv hx hb dX6_move_8 c_1 ?_
  refine lv_istore_n (lv' := [(2, .int (m_cursor / m_columns)), (0, .ref hM), (1, .int a1)]) hx hb dX6_move_9 rfl hl (by decide) rfl (fun ls hl => ?_)
  refine lv_aload_n hx hb dX6_move_10 rfl (lv_at hl 1 rfl) ?_
  refine va_get (D := (dC, dI)) (ci := 7) (v := .int m_cursor) (C := RX6) (T := TX6) (N := 25) hx hb hts uu_X6_move_X6 hown hK hP 0 rfl rfl 5 (by decide) (hts (.fieldLink RX6 49 "BlockScreenModel" "cursor" "I") (List.mem_of_getElem? (i := 1) rfl)) (fun _ h9 => h9) rfl dX6_move_11 ?_
  refine lv_aload_n hx hb dX6_move_14 rfl (lv_at hl 1 rfl) ?_
  refine va_get (D := (dC, dI)) (ci := 7) (v := .int m_columns) (C := RX6) (T := TX6) (N := 25) hx hb hts uu_X6_move_X6 hown hK hP 0 rfl rfl 3 (by decide) (hts (.fieldLink RX6 43 "BlockScreenModel" "columns" "I") (List.mem_of_getElem? (i := 2) rfl)) (fun _ h9 => h9) rfl dX6_move_15 ?_
  refine lv_irem hx hb dX6_move_18 c_1 ?_
  refine lv_istore_n (lv' := [(3, .int (m_cursor - m_cursor / m_columns * m_columns)), (2, .int (m_cursor / m_columns)), (0, .ref hM), (1, .int a1)]) hx hb dX6_move_19 rfl hl (by decide) rfl (fun ls hl => ?_)
  refine lv_iload_n hx hb dX6_move_20 rfl (lv_at hl 3 rfl) ?_
  rcases Classical.em (a1 = 40) with c_2 | c_2
  · have hf := (if_pos c_2).symm.trans hf
    refine lv_tableIn (off := 43) (tgt := 64) hx hb dX6_move_21 (by rw [c_2]; decide) (by rw [c_2]; decide) (by rw [c_2]; rfl) (by decide) ?_
    refine lv_aload_n hx hb dX6_move_64 rfl (lv_at hl 2 rfl) ?_
    refine lv_aload_n hx hb dX6_move_65 rfl (lv_at hl 2 rfl) ?_
    refine va_get (D := (dC, dI)) (ci := 7) (v := .int m_cursor) (C := RX6) (T := TX6) (N := 25) hx hb hts uu_X6_move_X6 hown hK hP 0 rfl rfl 5 (by decide) (hts (.fieldLink RX6 49 "BlockScreenModel" "cursor" "I") (List.mem_of_getElem? (i := 1) rfl)) (fun _ h9 => h9) rfl dX6_move_66 ?_
    obtain ⟨r_3, hq_3, hf⟩ := ob_inv hf
    refine my_cVi (As := [.int m_cursor]) (rest := []) ⟨hx, hb, hml, hown, hts⟩ (c_X6_tab l dC dI cI hM hR hT hZ m_allRows m_allColumns m_rows m_columns m_cells m_cursor m_locked m_insert m_alarms m_rejects m_latest m_thrown m_streamLong m_at m_place m_orders m_escaped m_broken m_signBefore m_free m_waitsLong m_cutOff m_screen m_stream m_waits _ m_cursor r_3 hq_3) (cwV 1 hts gX6_move_X6_tab rfl rfl rfl (by decide +kernel) ⟨Nat.le_of_ble_eq_true rfl, Nat.le_of_ble_eq_true rfl⟩) hK hP hD hS hA 0 7 rfl rfl rfl hl.1 rfl (Nat.le_of_ble_eq_true rfl) dX6_move_69 ⟨Nat.zero_le _, Nat.zero_le _⟩ (fun _ H locs hP hD hS => ?_)
    have hP : va_P (dC, dI) vwCl (wM hM hR hT hZ cI m_allRows m_allColumns m_rows m_columns m_cells m_cursor m_locked m_insert m_alarms m_rejects m_latest m_thrown m_streamLong m_at m_place m_orders m_escaped m_broken m_signBefore m_free m_waitsLong m_cutOff m_screen m_stream m_waits) H := hP
    have hD : va_D A (wM hM hR hT hZ cI m_allRows m_allColumns m_rows m_columns m_cells m_cursor m_locked m_insert m_alarms m_rejects m_latest m_thrown m_streamLong m_at m_place m_orders m_escaped m_broken m_signBefore m_free m_waitsLong m_cutOff m_screen m_stream m_waits) := hD
    have hf := Option.some.inj hf
    subst hf
    exact my_reti () hx hb hr hlocks hK hP hD hS rfl dX6_move_72
  have hf := (if_neg c_2).symm.trans hf
  rcases Classical.em (a1 = 41) with c_4 | c_4
  · have hf := (if_pos c_4).symm.trans hf
    refine lv_tableIn (off := 52) (tgt := 73) hx hb dX6_move_21 (by rw [c_4]; decide) (by rw [c_4]; decide) (by rw [c_4]; rfl) (by decide) ?_
    refine lv_aload_n hx hb dX6_move_73 rfl (lv_at hl 2 rfl) ?_
    obtain ⟨r_5, hq_5, hf⟩ := ob_inv hf
    refine my_cVi (As := []) (rest := []) ⟨hx, hb, hml, hown, hts⟩ (c_X6_tabBack l dC dI cI hM hR hT hZ m_allRows m_allColumns m_rows m_columns m_cells m_cursor m_locked m_insert m_alarms m_rejects m_latest m_thrown m_streamLong m_at m_place m_orders m_escaped m_broken m_signBefore m_free m_waitsLong m_cutOff m_screen m_stream m_waits _  r_5 hq_5) (cwV 0 hts gX6_move_X6_tabBack rfl rfl rfl (by decide +kernel) ⟨Nat.le_of_ble_eq_true rfl, Nat.le_of_ble_eq_true rfl⟩) hK hP hD hS hA 0 7 rfl rfl rfl hl.1 rfl (Nat.le_of_ble_eq_true rfl) dX6_move_74 ⟨Nat.zero_le _, Nat.zero_le _⟩ (fun _ H locs hP hD hS => ?_)
    have hP : va_P (dC, dI) vwCl (wM hM hR hT hZ cI m_allRows m_allColumns m_rows m_columns m_cells m_cursor m_locked m_insert m_alarms m_rejects m_latest m_thrown m_streamLong m_at m_place m_orders m_escaped m_broken m_signBefore m_free m_waitsLong m_cutOff m_screen m_stream m_waits) H := hP
    have hD : va_D A (wM hM hR hT hZ cI m_allRows m_allColumns m_rows m_columns m_cells m_cursor m_locked m_insert m_alarms m_rejects m_latest m_thrown m_streamLong m_at m_place m_orders m_escaped m_broken m_signBefore m_free m_waitsLong m_cutOff m_screen m_stream m_waits) := hD
    have hf := Option.some.inj hf
    subst hf
    exact my_reti () hx hb hr hlocks hK hP hD hS rfl dX6_move_77
  have hf := (if_neg c_4).symm.trans hf
  rcases Classical.em (a1 = 42) with c_6 | c_6
  · have hf := (if_pos c_6).symm.trans hf
    refine lv_tableIn (off := 57) (tgt := 78) hx hb dX6_move_21 (by rw [c_6]; decide) (by rw [c_6]; decide) (by rw [c_6]; rfl) (by decide) ?_
    refine lv_aload_n hx hb dX6_move_78 rfl (lv_at hl 2 rfl) ?_
    obtain ⟨r_7, hq_7, hf⟩ := ob_inv hf
    refine my_cVi (As := []) (rest := []) ⟨hx, hb, hml, hown, hts⟩ (c_X6_nextLine l dC dI cI hM hR hT hZ m_allRows m_allColumns m_rows m_columns m_cells m_cursor m_locked m_insert m_alarms m_rejects m_latest m_thrown m_streamLong m_at m_place m_orders m_escaped m_broken m_signBefore m_free m_waitsLong m_cutOff m_screen m_stream m_waits _  r_7 hq_7) (cwV 0 hts gX6_move_X6_nextLine rfl rfl rfl (by decide +kernel) ⟨Nat.le_of_ble_eq_true rfl, Nat.le_of_ble_eq_true rfl⟩) hK hP hD hS hA 0 7 rfl rfl rfl hl.1 rfl (Nat.le_of_ble_eq_true rfl) dX6_move_79 ⟨Nat.zero_le _, Nat.zero_le _⟩ (fun _ H locs hP hD hS => ?_)
    have hP : va_P (dC, dI) vwCl (wM hM hR hT hZ cI m_allRows m_allColumns m_rows m_columns m_cells m_cursor m_locked m_insert m_alarms m_rejects m_latest m_thrown m_streamLong m_at m_place m_orders m_escaped m_broken m_signBefore m_free m_waitsLong m_cutOff m_screen m_stream m_waits) H := hP
    have hD : va_D A (wM hM hR hT hZ cI m_allRows m_allColumns m_rows m_columns m_cells m_cursor m_locked m_insert m_alarms m_rejects m_latest m_thrown m_streamLong m_at m_place m_orders m_escaped m_broken m_signBefore m_free m_waitsLong m_cutOff m_screen m_stream m_waits) := hD
    have hf := Option.some.inj hf
    subst hf
    exact my_reti () hx hb hr hlocks hK hP hD hS rfl dX6_move_82
  have hf := (if_neg c_6).symm.trans hf
  rcases Classical.em (a1 = 43) with c_8 | c_8
  · have hf := (if_pos c_8).symm.trans hf
    refine lv_tableIn (off := 62) (tgt := 83) hx hb dX6_move_21 (by rw [c_8]; decide) (by rw [c_8]; decide) (by rw [c_8]; rfl) (by decide) ?_
    refine lv_aload_n hx hb dX6_move_83 rfl (lv_at hl 2 rfl) ?_
    refine lv_aload_n hx hb dX6_move_84 rfl (lv_at hl 2 rfl) ?_
    refine va_get (D := (dC, dI)) (ci := 7) (v := .int m_cells) (C := RX6) (T := TX6) (N := 25) hx hb hts uu_X6_move_X6 hown hK hP 0 rfl rfl 4 (by decide) (hts (.fieldLink RX6 46 "BlockScreenModel" "cells" "I") (List.mem_of_getElem? (i := 3) rfl)) (fun _ h9 => h9) rfl dX6_move_85 ?_
    refine lv_iconst (v := 1) hx hb dX6_move_88 (by decide) ?_
    refine lv_isub hx hb dX6_move_89 ?_
    obtain ⟨r_9, hq_9, hf⟩ := ob_inv hf
    refine my_cVi (As := [.int (m_cells - 1)]) (rest := []) ⟨hx, hb, hml, hown, hts⟩ (c_X6_tab l dC dI cI hM hR hT hZ m_allRows m_allColumns m_rows m_columns m_cells m_cursor m_locked m_insert m_alarms m_rejects m_latest m_thrown m_streamLong m_at m_place m_orders m_escaped m_broken m_signBefore m_free m_waitsLong m_cutOff m_screen m_stream m_waits _ (m_cells - 1) r_9 hq_9) (cwV 1 hts gX6_move_X6_tab rfl rfl rfl (by decide +kernel) ⟨Nat.le_of_ble_eq_true rfl, Nat.le_of_ble_eq_true rfl⟩) hK hP hD hS hA 0 7 rfl rfl rfl hl.1 rfl (Nat.le_of_ble_eq_true rfl) dX6_move_90 ⟨Nat.zero_le _, Nat.zero_le _⟩ (fun _ H locs hP hD hS => ?_)
    have hP : va_P (dC, dI) vwCl (wM hM hR hT hZ cI m_allRows m_allColumns m_rows m_columns m_cells m_cursor m_locked m_insert m_alarms m_rejects m_latest m_thrown m_streamLong m_at m_place m_orders m_escaped m_broken m_signBefore m_free m_waitsLong m_cutOff m_screen m_stream m_waits) H := hP
    have hD : va_D A (wM hM hR hT hZ cI m_allRows m_allColumns m_rows m_columns m_cells m_cursor m_locked m_insert m_alarms m_rejects m_latest m_thrown m_streamLong m_at m_place m_orders m_escaped m_broken m_signBefore m_free m_waitsLong m_cutOff m_screen m_stream m_waits) := hD
    have hf := Option.some.inj hf
    subst hf
    exact my_reti () hx hb hr hlocks hK hP hD hS rfl dX6_move_93
  have hf := (if_neg c_8).symm.trans hf
  rcases Classical.em (a1 = 44) with c_10 | c_10
  · have hf := (if_pos c_10).symm.trans hf
    refine lv_tableIn (off := 73) (tgt := 94) hx hb dX6_move_21 (by rw [c_10]; decide) (by rw [c_10]; decide) (by rw [c_10]; rfl) (by decide) ?_
    refine lv_aload_n hx hb dX6_move_94 rfl (lv_at hl 2 rfl) ?_
    refine lv_aload_n hx hb dX6_move_95 rfl (lv_at hl 2 rfl) ?_
    refine va_get (D := (dC, dI)) (ci := 7) (v := .int m_cursor) (C := RX6) (T := TX6) (N := 25) hx hb hts uu_X6_move_X6 hown hK hP 0 rfl rfl 5 (by decide) (hts (.fieldLink RX6 49 "BlockScreenModel" "cursor" "I") (List.mem_of_getElem? (i := 1) rfl)) (fun _ h9 => h9) rfl dX6_move_96 ?_
    refine lv_iconst (v := 1) hx hb dX6_move_99 (by decide) ?_
    refine lv_isub hx hb dX6_move_100 ?_
    obtain ⟨r_11, hq_11, hf⟩ := ob_inv hf
    refine my_cVi (As := [.int (m_cursor - 1)]) (rest := []) ⟨hx, hb, hml, hown, hts⟩ (c_X6_round l dC dI cI hM hR hT hZ m_allRows m_allColumns m_rows m_columns m_cells m_cursor m_locked m_insert m_alarms m_rejects m_latest m_thrown m_streamLong m_at m_place m_orders m_escaped m_broken m_signBefore m_free m_waitsLong m_cutOff m_screen m_stream m_waits _ (m_cursor - 1) r_11 hq_11) (cwV 1 hts gX6_move_X6_round rfl rfl rfl (by decide +kernel) ⟨Nat.le_of_ble_eq_true rfl, Nat.le_of_ble_eq_true rfl⟩) hK hP hD hS hA 0 7 rfl rfl rfl hl.1 rfl (Nat.le_of_ble_eq_true rfl) dX6_move_101 ⟨Nat.zero_le _, Nat.zero_le _⟩ (fun _ H locs hP hD hS => ?_)
    have hP : va_P (dC, dI) vwCl (wM hM hR hT hZ cI m_allRows m_allColumns m_rows m_columns m_cells m_cursor m_locked m_insert m_alarms m_rejects m_latest m_thrown m_streamLong m_at m_place m_orders m_escaped m_broken m_signBefore m_free m_waitsLong m_cutOff m_screen m_stream m_waits) H := hP
    have hD : va_D A (wM hM hR hT hZ cI m_allRows m_allColumns m_rows m_columns m_cells m_cursor m_locked m_insert m_alarms m_rejects m_latest m_thrown m_streamLong m_at m_place m_orders m_escaped m_broken m_signBefore m_free m_waitsLong m_cutOff m_screen m_stream m_waits) := hD
    have hf := Option.some.inj hf
    subst hf
    exact my_reti () hx hb hr hlocks hK hP hD hS rfl dX6_move_104
  have hf := (if_neg c_10).symm.trans hf
  rcases Classical.em (a1 = 45) with c_12 | c_12
  · have hf := (if_pos c_12).symm.trans hf
    refine lv_tableIn (off := 84) (tgt := 105) hx hb dX6_move_21 (by rw [c_12]; decide) (by rw [c_12]; decide) (by rw [c_12]; rfl) (by decide) ?_
    refine lv_aload_n hx hb dX6_move_105 rfl (lv_at hl 2 rfl) ?_
    refine lv_aload_n hx hb dX6_move_106 rfl (lv_at hl 2 rfl) ?_
    refine va_get (D := (dC, dI)) (ci := 7) (v := .int m_cursor) (C := RX6) (T := TX6) (N := 25) hx hb hts uu_X6_move_X6 hown hK hP 0 rfl rfl 5 (by decide) (hts (.fieldLink RX6 49 "BlockScreenModel" "cursor" "I") (List.mem_of_getElem? (i := 1) rfl)) (fun _ h9 => h9) rfl dX6_move_107 ?_
    refine lv_iconst (v := 1) hx hb dX6_move_110 (by decide) ?_
    refine lv_iadd hx hb dX6_move_111 ?_
    obtain ⟨r_13, hq_13, hf⟩ := ob_inv hf
    refine my_cVi (As := [.int (m_cursor + 1)]) (rest := []) ⟨hx, hb, hml, hown, hts⟩ (c_X6_round l dC dI cI hM hR hT hZ m_allRows m_allColumns m_rows m_columns m_cells m_cursor m_locked m_insert m_alarms m_rejects m_latest m_thrown m_streamLong m_at m_place m_orders m_escaped m_broken m_signBefore m_free m_waitsLong m_cutOff m_screen m_stream m_waits _ (m_cursor + 1) r_13 hq_13) (cwV 1 hts gX6_move_X6_round rfl rfl rfl (by decide +kernel) ⟨Nat.le_of_ble_eq_true rfl, Nat.le_of_ble_eq_true rfl⟩) hK hP hD hS hA 0 7 rfl rfl rfl hl.1 rfl (Nat.le_of_ble_eq_true rfl) dX6_move_112 ⟨Nat.zero_le _, Nat.zero_le _⟩ (fun _ H locs hP hD hS => ?_)
    have hP : va_P (dC, dI) vwCl (wM hM hR hT hZ cI m_allRows m_allColumns m_rows m_columns m_cells m_cursor m_locked m_insert m_alarms m_rejects m_latest m_thrown m_streamLong m_at m_place m_orders m_escaped m_broken m_signBefore m_free m_waitsLong m_cutOff m_screen m_stream m_waits) H := hP
    have hD : va_D A (wM hM hR hT hZ cI m_allRows m_allColumns m_rows m_columns m_cells m_cursor m_locked m_insert m_alarms m_rejects m_latest m_thrown m_streamLong m_at m_place m_orders m_escaped m_broken m_signBefore m_free m_waitsLong m_cutOff m_screen m_stream m_waits) := hD
    have hf := Option.some.inj hf
    subst hf
    exact my_reti () hx hb hr hlocks hK hP hD hS rfl dX6_move_115
  have hf := (if_neg c_12).symm.trans hf
  rcases Classical.em (a1 = 46) with c_14 | c_14
  · have hf := (if_pos c_14).symm.trans hf
    refine lv_tableIn (off := 95) (tgt := 116) hx hb dX6_move_21 (by rw [c_14]; decide) (by rw [c_14]; decide) (by rw [c_14]; rfl) (by decide) ?_
    refine lv_iload_n hx hb dX6_move_116 rfl (lv_at hl 1 rfl) ?_
    refine lv_aload_n hx hb dX6_move_117 rfl (lv_at hl 2 rfl) ?_
    refine va_get (D := (dC, dI)) (ci := 7) (v := .int m_rows) (C := RX6) (T := TX6) (N := 25) hx hb hts uu_X6_move_X6 hown hK hP 0 rfl rfl 2 (by decide) (hts (.fieldLink RX6 40 "BlockScreenModel" "rows" "I") (List.mem_of_getElem? (i := 4) rfl)) (fun _ h9 => h9) rfl dX6_move_118 ?_
    refine lv_iadd hx hb dX6_move_121 ?_
    refine lv_iconst (v := 1) hx hb dX6_move_122 (by decide) ?_
    refine lv_isub hx hb dX6_move_123 ?_
    refine lv_aload_n hx hb dX6_move_124 rfl (lv_at hl 2 rfl) ?_
    refine va_get (D := (dC, dI)) (ci := 7) (v := .int m_rows) (C := RX6) (T := TX6) (N := 25) hx hb hts uu_X6_move_X6 hown hK hP 0 rfl rfl 2 (by decide) (hts (.fieldLink RX6 40 "BlockScreenModel" "rows" "I") (List.mem_of_getElem? (i := 4) rfl)) (fun _ h9 => h9) rfl dX6_move_125 ?_
    rcases Classical.em (m_rows = 0) with c_15 | c_15
    · exact nn_abs ((if_pos c_15).symm.trans hf)
    have hf := (if_neg c_15).symm.trans hf
    refine lv_irem hx hb dX6_move_128 c_15 ?_
    refine lv_aload_n hx hb dX6_move_129 rfl (lv_at hl 2 rfl) ?_
    refine va_get (D := (dC, dI)) (ci := 7) (v := .int m_columns) (C := RX6) (T := TX6) (N := 25) hx hb hts uu_X6_move_X6 hown hK hP 0 rfl rfl 3 (by decide) (hts (.fieldLink RX6 43 "BlockScreenModel" "columns" "I") (List.mem_of_getElem? (i := 2) rfl)) (fun _ h9 => h9) rfl dX6_move_130 ?_
    refine lv_imul hx hb dX6_move_133 ?_
    refine lv_iload_n hx hb dX6_move_134 rfl (lv_at hl 0 rfl) ?_
    refine lv_iadd hx hb dX6_move_135 ?_
    have hf := Option.some.inj hf
    subst hf
    exact my_reti () hx hb hr hlocks hK hP hD hS rfl dX6_move_136
  have hf := (if_neg c_14).symm.trans hf
  refine lv_tableOut (tgt := 137) hx hb dX6_move_21 (by have hz := And.intro (lv_neT c_2 (show (40 : Int32).toInt = 40 from by decide)) trivial; have := lv_neT c_2 (show (40 : Int32).toInt = 40 from by decide); have := lv_neT c_4 (show (41 : Int32).toInt = 41 from by decide); have := lv_neT c_6 (show (42 : Int32).toInt = 42 from by decide); have := lv_neT c_8 (show (43 : Int32).toInt = 43 from by decide); have := lv_neT c_10 (show (44 : Int32).toInt = 44 from by decide); have := lv_neT c_12 (show (45 : Int32).toInt = 45 from by decide); have := lv_neT c_14 (show (46 : Int32).toInt = 46 from by decide); omega) (by decide) ?_
  refine lv_iload_n hx hb dX6_move_137 rfl (lv_at hl 1 rfl) ?_
  refine lv_iconst (v := 1) hx hb dX6_move_138 (by decide) ?_
  refine lv_iadd hx hb dX6_move_139 ?_
  refine lv_aload_n hx hb dX6_move_140 rfl (lv_at hl 2 rfl) ?_
  refine va_get (D := (dC, dI)) (ci := 7) (v := .int m_rows) (C := RX6) (T := TX6) (N := 25) hx hb hts uu_X6_move_X6 hown hK hP 0 rfl rfl 2 (by decide) (hts (.fieldLink RX6 40 "BlockScreenModel" "rows" "I") (List.mem_of_getElem? (i := 4) rfl)) (fun _ h9 => h9) rfl dX6_move_141 ?_
  rcases Classical.em (m_rows = 0) with c_16 | c_16
  · exact nn_abs ((if_pos c_16).symm.trans hf)
  have hf := (if_neg c_16).symm.trans hf
  refine lv_irem hx hb dX6_move_144 c_16 ?_
  refine lv_aload_n hx hb dX6_move_145 rfl (lv_at hl 2 rfl) ?_
  refine va_get (D := (dC, dI)) (ci := 7) (v := .int m_columns) (C := RX6) (T := TX6) (N := 25) hx hb hts uu_X6_move_X6 hown hK hP 0 rfl rfl 3 (by decide) (hts (.fieldLink RX6 43 "BlockScreenModel" "columns" "I") (List.mem_of_getElem? (i := 2) rfl)) (fun _ h9 => h9) rfl dX6_move_146 ?_
  refine lv_imul hx hb dX6_move_149 ?_
  refine lv_iload_n hx hb dX6_move_150 rfl (lv_at hl 0 rfl) ?_
  refine lv_iadd hx hb dX6_move_151 ?_
  have hf := Option.some.inj hf
  subst hf
  exact my_reti () hx hb hr hlocks hK hP hD hS rfl dX6_move_152

theorem uu_X6_press_X6 : ∀ w ∈ u_ws RX6 TX6 25, w ∈ wsX6_press := fun _ h => List.mem_cons_of_mem _ (List.mem_append_right _ h)
def f_X6_press (m_allRows : Int32) (m_allColumns : Int32) (m_rows : Int32) (m_columns : Int32) (m_cells : Int32) (m_cursor : Int32) (m_locked : Bool) (m_latest : Int32) (m_waitsLong : Int32) (m_screen : Nat → Int32) (m_waits : Nat → Int32) (a1 : Int32) : Option (Int32 × Int32 × Int32 × Int32 × Bool × Int32 × Int32 × (Nat → Int32) × (Nat → Int32)) :=
    if (f_X6_sendingKey  a1) = (-1) then
    if a1 = 2 then
    Option.bind (f_X6_use m_allRows m_allColumns m_rows m_columns m_cells m_cursor m_screen true) (fun (m_rows_7, m_columns_7, m_cells_7, m_cursor_7, m_screen_7) =>
    Option.bind (f_X6_shortly m_waitsLong m_waits (f_X6_shortKey  a1)) (fun (m_waitsLong_8, m_waits_8) =>
    thn (f_X6_lock m_locked) (fun m_locked_9 =>
    some (m_rows_7, m_columns_7, m_cells_7, m_cursor_7, m_locked_9, (f_X6_shortKey  a1), m_waitsLong_8, m_screen_7, m_waits_8))))
    else
    Option.bind (f_X6_shortly m_waitsLong m_waits (f_X6_shortKey  a1)) (fun (m_waitsLong_5, m_waits_5) =>
    thn (f_X6_lock m_locked) (fun m_locked_6 =>
    some (m_rows, m_columns, m_cells, m_cursor, m_locked_6, (f_X6_shortKey  a1), m_waitsLong_5, m_screen, m_waits_5)))
    else
    Option.bind (f_X6_answer m_cells m_cursor m_waitsLong m_screen m_waits (f_X6_sendingKey  a1) false) (fun (m_waitsLong_11, m_waits_11) =>
    thn (f_X6_lock m_locked) (fun m_locked_12 =>
    some (m_rows, m_columns, m_cells, m_cursor, m_locked_12, (f_X6_sendingKey  a1), m_waitsLong_11, m_screen, m_waits_11)))
set_option maxHeartbeats 400000 in
set_option maxRecDepth 100000 in
theorem c_X6_press (l : Launch) (dC : Nat → ClassId) (dI : Nat → Nat → Nat) (cI : ClassId) (hM hR hT hZ : Nat) (m_allRows : Int32) (m_allColumns : Int32) (m_rows : Int32) (m_columns : Int32) (m_cells : Int32) (m_cursor : Int32) (m_locked : Bool) (m_insert : Bool) (m_alarms : Int32) (m_rejects : Int32) (m_latest : Int32) (m_thrown : Int32) (m_streamLong : Int32) (m_at : Int32) (m_place : Int32) (m_orders : Int32) (m_escaped : Bool) (m_broken : Bool) (m_signBefore : Bool) (m_free : Bool) (m_waitsLong : Int32) (m_cutOff : Bool) (m_screen : Nat → Int32) (m_stream : Nat → Int32) (m_waits : Nat → Int32) (sz : Nat) (a1 : Int32) (res : Int32 × Int32 × Int32 × Int32 × Bool × Int32 × Int32 × (Nat → Int32) × (Nat → Int32)) (hf : f_X6_press m_allRows m_allColumns m_rows m_columns m_cells m_cursor m_locked m_latest m_waitsLong m_screen m_waits a1 = some res) : Met l yX6_press wsX6_press ({ frames := 4, cells := 0, slots := 0, locals := 88 }) (va_Pc [.ref hM, .int a1] (my_Pre (dC, dI) [(cI, .int)] (wM hM hR hT hZ cI m_allRows m_allColumns m_rows m_columns m_cells m_cursor m_locked m_insert m_alarms m_rejects m_latest m_thrown m_streamLong m_at m_place m_orders m_escaped m_broken m_signBefore m_free m_waitsLong m_cutOff m_screen m_stream m_waits) sz)) (my_Qv (S := Unit) (dC, dI) [(cI, .int)] (fun _ => wM hM hR hT hZ cI m_allRows m_allColumns res.1 res.2.1 res.2.2.1 res.2.2.2.1 res.2.2.2.2.1 m_insert m_alarms m_rejects res.2.2.2.2.2.1 m_thrown m_streamLong m_at m_place m_orders m_escaped m_broken m_signBefore m_free res.2.2.2.2.2.2.1 m_cutOff res.2.2.2.2.2.2.2.1 m_stream res.2.2.2.2.2.2.2.2) (va_A (wM hM hR hT hZ cI m_allRows m_allColumns m_rows m_columns m_cells m_cursor m_locked m_insert m_alarms m_rejects m_latest m_thrown m_streamLong m_at m_place m_orders m_escaped m_broken m_signBefore m_free m_waitsLong m_cutOff m_screen m_stream m_waits) sz)) 0 0 (va_A (wM hM hR hT hZ cI m_allRows m_allColumns m_rows m_columns m_cells m_cursor m_locked m_insert m_alarms m_rejects m_latest m_thrown m_streamLong m_at m_place m_orders m_escaped m_broken m_signBefore m_free m_waitsLong m_cutOff m_screen m_stream m_waits) sz) := by
  refine my_enter (cc := cX6_press) (maxL := 2) (ret := none) (Qc := my_Qv (S := Unit) (dC, dI) [(cI, .int)] (fun _ => wM hM hR hT hZ cI m_allRows m_allColumns res.1 res.2.1 res.2.2.1 res.2.2.2.1 res.2.2.2.2.1 m_insert m_alarms m_rejects res.2.2.2.2.2.1 m_thrown m_streamLong m_at m_place m_orders m_escaped m_broken m_signBefore m_free res.2.2.2.2.2.2.1 m_cutOff res.2.2.2.2.2.2.2.1 m_stream res.2.2.2.2.2.2.2.2)) (by decide) rfl (Nat.le_of_ble_eq_true rfl) ?_
  intro p e s m below meth c A ls hx hb hr hml hts hown hlocks hnm hP hK hD hA hS hl
  have hown : s.vm.findClass RX6 = some m.cls := hown
  have hl : lv_has ls 2 [(0, .ref hM), (1, .int a1)] := hl
  unfold f_X6_press at hf
  refine lv_iload_n hx hb dX6_press_0 rfl (lv_at hl 1 rfl) ?_
  refine my_cSi (As := [.int a1]) (rest := []) ⟨hx, hb, hml, hown, hts⟩ (c_X6_sendingKey l dC dI cI hM hR hT hZ m_allRows m_allColumns m_rows m_columns m_cells m_cursor m_locked m_insert m_alarms m_rejects m_latest m_thrown m_streamLong m_at m_place m_orders m_escaped m_broken m_signBefore m_free m_waitsLong m_cutOff m_screen m_stream m_waits _ a1 (f_X6_sendingKey  a1) rfl) (va_cwS 1 hts gX6_press_X6_sendingKey rfl rfl rfl (by decide +kernel) ⟨Nat.le_of_ble_eq_true rfl, Nat.le_of_ble_eq_true rfl⟩) hK hP hD hS hA rfl hl.1 rfl (Nat.le_of_ble_eq_true rfl) dX6_press_1 ⟨Nat.zero_le _, Nat.zero_le _⟩ (fun _ H locs hP hD hS => ?_)
  have hP : va_P (dC, dI) vwCl (wM hM hR hT hZ cI m_allRows m_allColumns m_rows m_columns m_cells m_cursor m_locked m_insert m_alarms m_rejects m_latest m_thrown m_streamLong m_at m_place m_orders m_escaped m_broken m_signBefore m_free m_waitsLong m_cutOff m_screen m_stream m_waits) H := hP
  have hD : va_D A (wM hM hR hT hZ cI m_allRows m_allColumns m_rows m_columns m_cells m_cursor m_locked m_insert m_alarms m_rejects m_latest m_thrown m_streamLong m_at m_place m_orders m_escaped m_broken m_signBefore m_free m_waitsLong m_cutOff m_screen m_stream m_waits) := hD
  refine lv_iconst (v := (-1)) hx hb dX6_press_4 (by decide) ?_
  refine lv_icmp_eq (tgt := 28) hx hb dX6_press_5 (by decide) (fun c_2 => ?_) (fun c_2 => ?_)
  · have hf := (if_pos c_2).symm.trans hf
    refine lv_aload_n hx hb dX6_press_28 rfl (lv_at hl 0 rfl) ?_
    refine lv_iload_n hx hb dX6_press_29 rfl (lv_at hl 1 rfl) ?_
    refine my_cSi (As := [.int a1]) (rest := [.ref hM]) ⟨hx, hb, hml, hown, hts⟩ (c_X6_shortKey l dC dI cI hM hR hT hZ m_allRows m_allColumns m_rows m_columns m_cells m_cursor m_locked m_insert m_alarms m_rejects m_latest m_thrown m_streamLong m_at m_place m_orders m_escaped m_broken m_signBefore m_free m_waitsLong m_cutOff m_screen m_stream m_waits _ a1 (f_X6_shortKey  a1) rfl) (va_cwS 1 hts gX6_press_X6_shortKey rfl rfl rfl (by decide +kernel) ⟨Nat.le_of_ble_eq_true rfl, Nat.le_of_ble_eq_true rfl⟩) hK hP hD hS hA rfl hl.1 rfl (Nat.le_of_ble_eq_true rfl) dX6_press_30 ⟨Nat.zero_le _, Nat.zero_le _⟩ (fun _ H locs hP hD hS => ?_)
    have hP : va_P (dC, dI) vwCl (wM hM hR hT hZ cI m_allRows m_allColumns m_rows m_columns m_cells m_cursor m_locked m_insert m_alarms m_rejects m_latest m_thrown m_streamLong m_at m_place m_orders m_escaped m_broken m_signBefore m_free m_waitsLong m_cutOff m_screen m_stream m_waits) H := hP
    have hD : va_D A (wM hM hR hT hZ cI m_allRows m_allColumns m_rows m_columns m_cells m_cursor m_locked m_insert m_alarms m_rejects m_latest m_thrown m_streamLong m_at m_place m_orders m_escaped m_broken m_signBefore m_free m_waitsLong m_cutOff m_screen m_stream m_waits) := hD
    refine va_put (D := (dC, dI)) (ci := 7) (v := .int (f_X6_shortKey  a1)) (C := RX6) (T := TX6) (N := 25) hx hb hts uu_X6_press_X6 tyX6 tyX6_ok nmX6 hown hK hP hD hS 0 rfl rfl 11 (by decide) (hts (.fieldLink RX6 17 "BlockScreenModel" "latest" "I") (List.mem_of_getElem? (i := 1) rfl)) (fun _ h9 => h9) rfl (tyX6_ok 11 (by decide)) rfl rfl (Nat.le_of_ble_eq_true rfl) dX6_press_33 (fun H locs hP hD hS => ?_)
    have hP : va_P (dC, dI) vwCl (wM hM hR hT hZ cI m_allRows m_allColumns m_rows m_columns m_cells m_cursor m_locked m_insert m_alarms m_rejects (f_X6_shortKey  a1) m_thrown m_streamLong m_at m_place m_orders m_escaped m_broken m_signBefore m_free m_waitsLong m_cutOff m_screen m_stream m_waits) H := hP
    have hD : va_D A (wM hM hR hT hZ cI m_allRows m_allColumns m_rows m_columns m_cells m_cursor m_locked m_insert m_alarms m_rejects (f_X6_shortKey  a1) m_thrown m_streamLong m_at m_place m_orders m_escaped m_broken m_signBefore m_free m_waitsLong m_cutOff m_screen m_stream m_waits) := hD
    refine lv_iload_n hx hb dX6_press_36 rfl (lv_at hl 1 rfl) ?_
    refine lv_iconst (v := 2) hx hb dX6_press_37 (by decide) ?_
    refine lv_icmp_ne (tgt := 46) hx hb dX6_press_38 (by decide) (fun c_4 => ?_) (fun c_4 => ?_)
    · have hf := (if_neg c_4).symm.trans hf
      refine lv_aload_n hx hb dX6_press_46 rfl (lv_at hl 0 rfl) ?_
      refine lv_aload_n hx hb dX6_press_47 rfl (lv_at hl 0 rfl) ?_
      refine va_get (D := (dC, dI)) (ci := 7) (v := .int (f_X6_shortKey  a1)) (C := RX6) (T := TX6) (N := 25) hx hb hts uu_X6_press_X6 hown hK hP 0 rfl rfl 11 (by decide) (hts (.fieldLink RX6 17 "BlockScreenModel" "latest" "I") (List.mem_of_getElem? (i := 1) rfl)) (fun _ h9 => h9) rfl dX6_press_48 ?_
      obtain ⟨⟨m_waitsLong_5, m_waits_5⟩, hq_5, hf⟩ := ob_inv hf
      refine my_cVv (As := [.int (f_X6_shortKey  a1)]) (rest := []) ⟨hx, hb, hml, hown, hts⟩ (c_X6_shortly l dC dI cI hM hR hT hZ m_allRows m_allColumns m_rows m_columns m_cells m_cursor m_locked m_insert m_alarms m_rejects (f_X6_shortKey  a1) m_thrown m_streamLong m_at m_place m_orders m_escaped m_broken m_signBefore m_free m_waitsLong m_cutOff m_screen m_stream m_waits _ (f_X6_shortKey  a1) (m_waitsLong_5, m_waits_5) hq_5) (cwV 1 hts gX6_press_X6_shortly rfl rfl rfl (by decide +kernel) ⟨Nat.le_of_ble_eq_true rfl, Nat.le_of_ble_eq_true rfl⟩) hK hP hD hS hA 0 7 rfl rfl rfl hl.1 rfl (Nat.le_of_ble_eq_true rfl) dX6_press_51 ⟨Nat.zero_le _, Nat.zero_le _⟩ (fun _ H locs hP hD hS => ?_)
      have hP : va_P (dC, dI) vwCl (wM hM hR hT hZ cI m_allRows m_allColumns m_rows m_columns m_cells m_cursor m_locked m_insert m_alarms m_rejects (f_X6_shortKey  a1) m_thrown m_streamLong m_at m_place m_orders m_escaped m_broken m_signBefore m_free m_waitsLong_5 m_cutOff m_screen m_stream m_waits_5) H := hP
      have hD : va_D A (wM hM hR hT hZ cI m_allRows m_allColumns m_rows m_columns m_cells m_cursor m_locked m_insert m_alarms m_rejects (f_X6_shortKey  a1) m_thrown m_streamLong m_at m_place m_orders m_escaped m_broken m_signBefore m_free m_waitsLong_5 m_cutOff m_screen m_stream m_waits_5) := hD
      refine lv_aload_n hx hb dX6_press_54 rfl (lv_at hl 0 rfl) ?_
      obtain ⟨m_locked_6, hq_6, hf⟩ := th_inv hf
      refine my_cVv (As := []) (rest := []) ⟨hx, hb, hml, hown, hts⟩ (c_X6_lock l dC dI cI hM hR hT hZ m_allRows m_allColumns m_rows m_columns m_cells m_cursor m_locked m_insert m_alarms m_rejects (f_X6_shortKey  a1) m_thrown m_streamLong m_at m_place m_orders m_escaped m_broken m_signBefore m_free m_waitsLong_5 m_cutOff m_screen m_stream m_waits_5 _  m_locked_6 hq_6) (cwV 0 hts gX6_press_X6_lock rfl rfl rfl (by decide +kernel) ⟨Nat.le_of_ble_eq_true rfl, Nat.le_of_ble_eq_true rfl⟩) hK hP hD hS hA 0 7 rfl rfl rfl hl.1 rfl (Nat.le_of_ble_eq_true rfl) dX6_press_55 ⟨Nat.zero_le _, Nat.zero_le _⟩ (fun _ H locs hP hD hS => ?_)
      have hP : va_P (dC, dI) vwCl (wM hM hR hT hZ cI m_allRows m_allColumns m_rows m_columns m_cells m_cursor m_locked_6 m_insert m_alarms m_rejects (f_X6_shortKey  a1) m_thrown m_streamLong m_at m_place m_orders m_escaped m_broken m_signBefore m_free m_waitsLong_5 m_cutOff m_screen m_stream m_waits_5) H := hP
      have hD : va_D A (wM hM hR hT hZ cI m_allRows m_allColumns m_rows m_columns m_cells m_cursor m_locked_6 m_insert m_alarms m_rejects (f_X6_shortKey  a1) m_thrown m_streamLong m_at m_place m_orders m_escaped m_broken m_signBefore m_free m_waitsLong_5 m_cutOff m_screen m_stream m_waits_5) := hD
      have hf := Option.some.inj hf
      subst hf
      exact my_retv () hx hb hr hlocks hK hP hD hS dX6_press_58
    · have hf := (if_pos c_4).symm.trans hf
      refine lv_aload_n hx hb dX6_press_41 rfl (lv_at hl 0 rfl) ?_
      refine lv_iconst (v := 1) hx hb dX6_press_42 (by decide) ?_
      obtain ⟨⟨m_rows_7, m_columns_7, m_cells_7, m_cursor_7, m_screen_7⟩, hq_7, hf⟩ := ob_inv hf
      refine my_cVv (As := [.int (b2i true)]) (rest := []) ⟨hx, hb, hml, hown, hts⟩ (c_X6_use l dC dI cI hM hR hT hZ m_allRows m_allColumns m_rows m_columns m_cells m_cursor m_locked m_insert m_alarms m_rejects (f_X6_shortKey  a1) m_thrown m_streamLong m_at m_place m_orders m_escaped m_broken m_signBefore m_free m_waitsLong m_cutOff m_screen m_stream m_waits _ true (m_rows_7, m_columns_7, m_cells_7, m_cursor_7, m_screen_7) hq_7) (cwV 1 hts gX6_press_X6_use rfl rfl rfl (by decide +kernel) ⟨Nat.le_of_ble_eq_true rfl, Nat.le_of_ble_eq_true rfl⟩) hK hP hD hS hA 0 7 rfl rfl rfl hl.1 rfl (Nat.le_of_ble_eq_true rfl) dX6_press_43 ⟨Nat.zero_le _, Nat.zero_le _⟩ (fun _ H locs hP hD hS => ?_)
      have hP : va_P (dC, dI) vwCl (wM hM hR hT hZ cI m_allRows m_allColumns m_rows_7 m_columns_7 m_cells_7 m_cursor_7 m_locked m_insert m_alarms m_rejects (f_X6_shortKey  a1) m_thrown m_streamLong m_at m_place m_orders m_escaped m_broken m_signBefore m_free m_waitsLong m_cutOff m_screen_7 m_stream m_waits) H := hP
      have hD : va_D A (wM hM hR hT hZ cI m_allRows m_allColumns m_rows_7 m_columns_7 m_cells_7 m_cursor_7 m_locked m_insert m_alarms m_rejects (f_X6_shortKey  a1) m_thrown m_streamLong m_at m_place m_orders m_escaped m_broken m_signBefore m_free m_waitsLong m_cutOff m_screen_7 m_stream m_waits) := hD
      refine lv_aload_n hx hb dX6_press_46 rfl (lv_at hl 0 rfl) ?_
      refine lv_aload_n hx hb dX6_press_47 rfl (lv_at hl 0 rfl) ?_
      refine va_get (D := (dC, dI)) (ci := 7) (v := .int (f_X6_shortKey  a1)) (C := RX6) (T := TX6) (N := 25) hx hb hts uu_X6_press_X6 hown hK hP 0 rfl rfl 11 (by decide) (hts (.fieldLink RX6 17 "BlockScreenModel" "latest" "I") (List.mem_of_getElem? (i := 1) rfl)) (fun _ h9 => h9) rfl dX6_press_48 ?_
      obtain ⟨⟨m_waitsLong_8, m_waits_8⟩, hq_8, hf⟩ := ob_inv hf
      refine my_cVv (As := [.int (f_X6_shortKey  a1)]) (rest := []) ⟨hx, hb, hml, hown, hts⟩ (c_X6_shortly l dC dI cI hM hR hT hZ m_allRows m_allColumns m_rows_7 m_columns_7 m_cells_7 m_cursor_7 m_locked m_insert m_alarms m_rejects (f_X6_shortKey  a1) m_thrown m_streamLong m_at m_place m_orders m_escaped m_broken m_signBefore m_free m_waitsLong m_cutOff m_screen_7 m_stream m_waits _ (f_X6_shortKey  a1) (m_waitsLong_8, m_waits_8) hq_8) (cwV 1 hts gX6_press_X6_shortly rfl rfl rfl (by decide +kernel) ⟨Nat.le_of_ble_eq_true rfl, Nat.le_of_ble_eq_true rfl⟩) hK hP hD hS hA 0 7 rfl rfl rfl hl.1 rfl (Nat.le_of_ble_eq_true rfl) dX6_press_51 ⟨Nat.zero_le _, Nat.zero_le _⟩ (fun _ H locs hP hD hS => ?_)
      have hP : va_P (dC, dI) vwCl (wM hM hR hT hZ cI m_allRows m_allColumns m_rows_7 m_columns_7 m_cells_7 m_cursor_7 m_locked m_insert m_alarms m_rejects (f_X6_shortKey  a1) m_thrown m_streamLong m_at m_place m_orders m_escaped m_broken m_signBefore m_free m_waitsLong_8 m_cutOff m_screen_7 m_stream m_waits_8) H := hP
      have hD : va_D A (wM hM hR hT hZ cI m_allRows m_allColumns m_rows_7 m_columns_7 m_cells_7 m_cursor_7 m_locked m_insert m_alarms m_rejects (f_X6_shortKey  a1) m_thrown m_streamLong m_at m_place m_orders m_escaped m_broken m_signBefore m_free m_waitsLong_8 m_cutOff m_screen_7 m_stream m_waits_8) := hD
      refine lv_aload_n hx hb dX6_press_54 rfl (lv_at hl 0 rfl) ?_
      obtain ⟨m_locked_9, hq_9, hf⟩ := th_inv hf
      refine my_cVv (As := []) (rest := []) ⟨hx, hb, hml, hown, hts⟩ (c_X6_lock l dC dI cI hM hR hT hZ m_allRows m_allColumns m_rows_7 m_columns_7 m_cells_7 m_cursor_7 m_locked m_insert m_alarms m_rejects (f_X6_shortKey  a1) m_thrown m_streamLong m_at m_place m_orders m_escaped m_broken m_signBefore m_free m_waitsLong_8 m_cutOff m_screen_7 m_stream m_waits_8 _  m_locked_9 hq_9) (cwV 0 hts gX6_press_X6_lock rfl rfl rfl (by decide +kernel) ⟨Nat.le_of_ble_eq_true rfl, Nat.le_of_ble_eq_true rfl⟩) hK hP hD hS hA 0 7 rfl rfl rfl hl.1 rfl (Nat.le_of_ble_eq_true rfl) dX6_press_55 ⟨Nat.zero_le _, Nat.zero_le _⟩ (fun _ H locs hP hD hS => ?_)
      have hP : va_P (dC, dI) vwCl (wM hM hR hT hZ cI m_allRows m_allColumns m_rows_7 m_columns_7 m_cells_7 m_cursor_7 m_locked_9 m_insert m_alarms m_rejects (f_X6_shortKey  a1) m_thrown m_streamLong m_at m_place m_orders m_escaped m_broken m_signBefore m_free m_waitsLong_8 m_cutOff m_screen_7 m_stream m_waits_8) H := hP
      have hD : va_D A (wM hM hR hT hZ cI m_allRows m_allColumns m_rows_7 m_columns_7 m_cells_7 m_cursor_7 m_locked_9 m_insert m_alarms m_rejects (f_X6_shortKey  a1) m_thrown m_streamLong m_at m_place m_orders m_escaped m_broken m_signBefore m_free m_waitsLong_8 m_cutOff m_screen_7 m_stream m_waits_8) := hD
      have hf := Option.some.inj hf
      subst hf
      exact my_retv () hx hb hr hlocks hK hP hD hS dX6_press_58
  · have hf := (if_neg c_2).symm.trans hf
    refine lv_aload_n hx hb dX6_press_8 rfl (lv_at hl 0 rfl) ?_
    refine lv_iload_n hx hb dX6_press_9 rfl (lv_at hl 1 rfl) ?_
    refine my_cSi (As := [.int a1]) (rest := [.ref hM]) ⟨hx, hb, hml, hown, hts⟩ (c_X6_sendingKey l dC dI cI hM hR hT hZ m_allRows m_allColumns m_rows m_columns m_cells m_cursor m_locked m_insert m_alarms m_rejects m_latest m_thrown m_streamLong m_at m_place m_orders m_escaped m_broken m_signBefore m_free m_waitsLong m_cutOff m_screen m_stream m_waits _ a1 (f_X6_sendingKey  a1) rfl) (va_cwS 1 hts gX6_press_X6_sendingKey rfl rfl rfl (by decide +kernel) ⟨Nat.le_of_ble_eq_true rfl, Nat.le_of_ble_eq_true rfl⟩) hK hP hD hS hA rfl hl.1 rfl (Nat.le_of_ble_eq_true rfl) dX6_press_10 ⟨Nat.zero_le _, Nat.zero_le _⟩ (fun _ H locs hP hD hS => ?_)
    have hP : va_P (dC, dI) vwCl (wM hM hR hT hZ cI m_allRows m_allColumns m_rows m_columns m_cells m_cursor m_locked m_insert m_alarms m_rejects m_latest m_thrown m_streamLong m_at m_place m_orders m_escaped m_broken m_signBefore m_free m_waitsLong m_cutOff m_screen m_stream m_waits) H := hP
    have hD : va_D A (wM hM hR hT hZ cI m_allRows m_allColumns m_rows m_columns m_cells m_cursor m_locked m_insert m_alarms m_rejects m_latest m_thrown m_streamLong m_at m_place m_orders m_escaped m_broken m_signBefore m_free m_waitsLong m_cutOff m_screen m_stream m_waits) := hD
    refine va_put (D := (dC, dI)) (ci := 7) (v := .int (f_X6_sendingKey  a1)) (C := RX6) (T := TX6) (N := 25) hx hb hts uu_X6_press_X6 tyX6 tyX6_ok nmX6 hown hK hP hD hS 0 rfl rfl 11 (by decide) (hts (.fieldLink RX6 17 "BlockScreenModel" "latest" "I") (List.mem_of_getElem? (i := 1) rfl)) (fun _ h9 => h9) rfl (tyX6_ok 11 (by decide)) rfl rfl (Nat.le_of_ble_eq_true rfl) dX6_press_13 (fun H locs hP hD hS => ?_)
    have hP : va_P (dC, dI) vwCl (wM hM hR hT hZ cI m_allRows m_allColumns m_rows m_columns m_cells m_cursor m_locked m_insert m_alarms m_rejects (f_X6_sendingKey  a1) m_thrown m_streamLong m_at m_place m_orders m_escaped m_broken m_signBefore m_free m_waitsLong m_cutOff m_screen m_stream m_waits) H := hP
    have hD : va_D A (wM hM hR hT hZ cI m_allRows m_allColumns m_rows m_columns m_cells m_cursor m_locked m_insert m_alarms m_rejects (f_X6_sendingKey  a1) m_thrown m_streamLong m_at m_place m_orders m_escaped m_broken m_signBefore m_free m_waitsLong m_cutOff m_screen m_stream m_waits) := hD
    refine lv_aload_n hx hb dX6_press_16 rfl (lv_at hl 0 rfl) ?_
    refine lv_aload_n hx hb dX6_press_17 rfl (lv_at hl 0 rfl) ?_
    refine va_get (D := (dC, dI)) (ci := 7) (v := .int (f_X6_sendingKey  a1)) (C := RX6) (T := TX6) (N := 25) hx hb hts uu_X6_press_X6 hown hK hP 0 rfl rfl 11 (by decide) (hts (.fieldLink RX6 17 "BlockScreenModel" "latest" "I") (List.mem_of_getElem? (i := 1) rfl)) (fun _ h9 => h9) rfl dX6_press_18 ?_
    refine lv_iconst (v := 0) hx hb dX6_press_21 (by decide) ?_
    obtain ⟨⟨m_waitsLong_11, m_waits_11⟩, hq_11, hf⟩ := ob_inv hf
    refine my_cVv (As := [.int (f_X6_sendingKey  a1), .int (b2i false)]) (rest := []) ⟨hx, hb, hml, hown, hts⟩ (c_X6_answer l dC dI cI hM hR hT hZ m_allRows m_allColumns m_rows m_columns m_cells m_cursor m_locked m_insert m_alarms m_rejects (f_X6_sendingKey  a1) m_thrown m_streamLong m_at m_place m_orders m_escaped m_broken m_signBefore m_free m_waitsLong m_cutOff m_screen m_stream m_waits _ (f_X6_sendingKey  a1) false (m_waitsLong_11, m_waits_11) hq_11) (cwV 2 hts gX6_press_X6_answer rfl rfl rfl (by decide +kernel) ⟨Nat.le_of_ble_eq_true rfl, Nat.le_of_ble_eq_true rfl⟩) hK hP hD hS hA 0 7 rfl rfl rfl hl.1 rfl (Nat.le_of_ble_eq_true rfl) dX6_press_22 ⟨Nat.zero_le _, Nat.zero_le _⟩ (fun _ H locs hP hD hS => ?_)
    have hP : va_P (dC, dI) vwCl (wM hM hR hT hZ cI m_allRows m_allColumns m_rows m_columns m_cells m_cursor m_locked m_insert m_alarms m_rejects (f_X6_sendingKey  a1) m_thrown m_streamLong m_at m_place m_orders m_escaped m_broken m_signBefore m_free m_waitsLong_11 m_cutOff m_screen m_stream m_waits_11) H := hP
    have hD : va_D A (wM hM hR hT hZ cI m_allRows m_allColumns m_rows m_columns m_cells m_cursor m_locked m_insert m_alarms m_rejects (f_X6_sendingKey  a1) m_thrown m_streamLong m_at m_place m_orders m_escaped m_broken m_signBefore m_free m_waitsLong_11 m_cutOff m_screen m_stream m_waits_11) := hD
    refine lv_goto (tgt := 54) hx hb dX6_press_25 (by decide) ?_
    refine lv_aload_n hx hb dX6_press_54 rfl (lv_at hl 0 rfl) ?_
    obtain ⟨m_locked_12, hq_12, hf⟩ := th_inv hf
    refine my_cVv (As := []) (rest := []) ⟨hx, hb, hml, hown, hts⟩ (c_X6_lock l dC dI cI hM hR hT hZ m_allRows m_allColumns m_rows m_columns m_cells m_cursor m_locked m_insert m_alarms m_rejects (f_X6_sendingKey  a1) m_thrown m_streamLong m_at m_place m_orders m_escaped m_broken m_signBefore m_free m_waitsLong_11 m_cutOff m_screen m_stream m_waits_11 _  m_locked_12 hq_12) (cwV 0 hts gX6_press_X6_lock rfl rfl rfl (by decide +kernel) ⟨Nat.le_of_ble_eq_true rfl, Nat.le_of_ble_eq_true rfl⟩) hK hP hD hS hA 0 7 rfl rfl rfl hl.1 rfl (Nat.le_of_ble_eq_true rfl) dX6_press_55 ⟨Nat.zero_le _, Nat.zero_le _⟩ (fun _ H locs hP hD hS => ?_)
    have hP : va_P (dC, dI) vwCl (wM hM hR hT hZ cI m_allRows m_allColumns m_rows m_columns m_cells m_cursor m_locked_12 m_insert m_alarms m_rejects (f_X6_sendingKey  a1) m_thrown m_streamLong m_at m_place m_orders m_escaped m_broken m_signBefore m_free m_waitsLong_11 m_cutOff m_screen m_stream m_waits_11) H := hP
    have hD : va_D A (wM hM hR hT hZ cI m_allRows m_allColumns m_rows m_columns m_cells m_cursor m_locked_12 m_insert m_alarms m_rejects (f_X6_sendingKey  a1) m_thrown m_streamLong m_at m_place m_orders m_escaped m_broken m_signBefore m_free m_waitsLong_11 m_cutOff m_screen m_stream m_waits_11) := hD
    have hf := Option.some.inj hf
    subst hf
    exact my_retv () hx hb hr hlocks hK hP hD hS dX6_press_58

theorem uu_X6_key_X6 : ∀ w ∈ u_ws RX6 TX6 25, w ∈ wsX6_key := fun _ h => List.mem_cons_of_mem _ (List.mem_append_right _ h)
def f_X6_key_L38 (m_allRows : Int32) (m_allColumns : Int32) (v1 : Int32) (t0 : Bool) (z_m_rows : Int32) (z_m_columns : Int32) (z_m_cells : Int32) (z_m_cursor : Int32) (z_m_locked : Bool) (z_m_insert : Bool) (z_m_latest : Int32) (z_m_thrown : Int32) (z_m_waitsLong : Int32) (z_m_screen : Nat → Int32) (z_m_waits : Nat → Int32) : Option (Int32 × Int32 × Int32 × Int32 × Int32 × Bool × Bool × Int32 × Int32 × Int32 × (Nat → Int32) × (Nat → Int32)) :=
    if (b2i t0) = 0 then
    some ((-1), z_m_rows, z_m_columns, z_m_cells, z_m_cursor, z_m_locked, z_m_insert, z_m_latest, z_m_thrown, z_m_waitsLong, z_m_screen, z_m_waits)
    else
    if v1 = 51 then
    some (1, z_m_rows, z_m_columns, z_m_cells, z_m_cursor, false, false, z_m_latest, z_m_thrown, z_m_waitsLong, z_m_screen, z_m_waits)
    else
    if (b2i z_m_locked) = 0 then
    if v1 = 48 then
    Option.bind (f_X6_eraseToEnd z_m_cells z_m_cursor z_m_locked z_m_screen) (fun (r_13, m_locked_13, m_screen_13) =>
    some (r_13, z_m_rows, z_m_columns, z_m_cells, z_m_cursor, m_locked_13, z_m_insert, z_m_latest, z_m_thrown, z_m_waitsLong, m_screen_13, z_m_waits))
    else
    if v1 = 52 then
    Option.bind (f_X6_deleteSign z_m_columns z_m_cells z_m_cursor z_m_locked z_m_screen) (fun (r_12, m_locked_12, m_screen_12) =>
    some (r_12, z_m_rows, z_m_columns, z_m_cells, z_m_cursor, m_locked_12, z_m_insert, z_m_latest, z_m_thrown, z_m_waitsLong, m_screen_12, z_m_waits))
    else
    if v1 = 49 then
    Option.bind (f_X6_eraseInput z_m_cells z_m_cursor z_m_waitsLong z_m_screen) (fun (m_cursor_11, m_waitsLong_11, m_screen_11) =>
    some (1, z_m_rows, z_m_columns, z_m_cells, m_cursor_11, z_m_locked, z_m_insert, z_m_latest, z_m_thrown, m_waitsLong_11, m_screen_11, z_m_waits))
    else
    if v1 = 50 then
    some (1, z_m_rows, z_m_columns, z_m_cells, z_m_cursor, z_m_locked, true, z_m_latest, z_m_thrown, z_m_waitsLong, z_m_screen, z_m_waits)
    else
    if v1 < 40 then
    Option.bind (f_X6_press m_allRows m_allColumns z_m_rows z_m_columns z_m_cells z_m_cursor z_m_locked z_m_latest z_m_waitsLong z_m_screen z_m_waits v1) (fun (m_rows_9, m_columns_9, m_cells_9, m_cursor_9, m_locked_9, m_latest_9, m_waitsLong_9, m_screen_9, m_waits_9) =>
    some (1, m_rows_9, m_columns_9, m_cells_9, m_cursor_9, m_locked_9, z_m_insert, m_latest_9, z_m_thrown, m_waitsLong_9, m_screen_9, m_waits_9))
    else
    Option.bind (f_X6_move z_m_rows z_m_columns z_m_cells z_m_cursor z_m_screen v1) (fun r_10 =>
    some (1, z_m_rows, z_m_columns, z_m_cells, r_10, z_m_locked, z_m_insert, z_m_latest, z_m_thrown, z_m_waitsLong, z_m_screen, z_m_waits))
    else
    some (0, z_m_rows, z_m_columns, z_m_cells, z_m_cursor, z_m_locked, z_m_insert, z_m_latest, z_m_thrown, z_m_waitsLong, z_m_screen, z_m_waits)
def f_X6_key (m_allRows : Int32) (m_allColumns : Int32) (m_rows : Int32) (m_columns : Int32) (m_cells : Int32) (m_cursor : Int32) (m_locked : Bool) (m_insert : Bool) (m_latest : Int32) (m_thrown : Int32) (m_waitsLong : Int32) (m_screen : Nat → Int32) (m_waits : Nat → Int32) (a1 : Int32) : Option (Int32 × Int32 × Int32 × Int32 × Int32 × Bool × Bool × Int32 × Int32 × Int32 × (Nat → Int32) × (Nat → Int32)) :=
    if (f_X6_sendingKey  a1) = (-1) then
    if (f_X6_shortKey  a1) = (-1) then
    if a1 < 40 then
    f_X6_key_L38 m_allRows m_allColumns  a1 false m_rows m_columns m_cells m_cursor m_locked m_insert m_latest 0 m_waitsLong m_screen m_waits
    else
    if 52 < a1 then
    f_X6_key_L38 m_allRows m_allColumns  a1 false m_rows m_columns m_cells m_cursor m_locked m_insert m_latest 0 m_waitsLong m_screen m_waits
    else
    f_X6_key_L38 m_allRows m_allColumns  a1 true m_rows m_columns m_cells m_cursor m_locked m_insert m_latest 0 m_waitsLong m_screen m_waits
    else
    f_X6_key_L38 m_allRows m_allColumns  a1 true m_rows m_columns m_cells m_cursor m_locked m_insert m_latest 0 m_waitsLong m_screen m_waits
    else
    f_X6_key_L38 m_allRows m_allColumns  a1 true m_rows m_columns m_cells m_cursor m_locked m_insert m_latest 0 m_waitsLong m_screen m_waits
set_option maxHeartbeats 400000 in
set_option maxRecDepth 100000 in
theorem c_X6_key (l : Launch) (dC : Nat → ClassId) (dI : Nat → Nat → Nat) (cI : ClassId) (hM hR hT hZ : Nat) (m_allRows : Int32) (m_allColumns : Int32) (m_rows : Int32) (m_columns : Int32) (m_cells : Int32) (m_cursor : Int32) (m_locked : Bool) (m_insert : Bool) (m_alarms : Int32) (m_rejects : Int32) (m_latest : Int32) (m_thrown : Int32) (m_streamLong : Int32) (m_at : Int32) (m_place : Int32) (m_orders : Int32) (m_escaped : Bool) (m_broken : Bool) (m_signBefore : Bool) (m_free : Bool) (m_waitsLong : Int32) (m_cutOff : Bool) (m_screen : Nat → Int32) (m_stream : Nat → Int32) (m_waits : Nat → Int32) (sz : Nat) (a1 : Int32) (res : Int32 × Int32 × Int32 × Int32 × Int32 × Bool × Bool × Int32 × Int32 × Int32 × (Nat → Int32) × (Nat → Int32)) (hf : f_X6_key m_allRows m_allColumns m_rows m_columns m_cells m_cursor m_locked m_insert m_latest m_thrown m_waitsLong m_screen m_waits a1 = some res) : Met l yX6_key wsX6_key ({ frames := 7, cells := 0, slots := 0, locals := 152 }) (va_Pc [.ref hM, .int a1] (my_Pre (dC, dI) [(cI, .int)] (wM hM hR hT hZ cI m_allRows m_allColumns m_rows m_columns m_cells m_cursor m_locked m_insert m_alarms m_rejects m_latest m_thrown m_streamLong m_at m_place m_orders m_escaped m_broken m_signBefore m_free m_waitsLong m_cutOff m_screen m_stream m_waits) sz)) (my_Qi (S := Unit) (dC, dI) [(cI, .int)] res.1 (fun _ => wM hM hR hT hZ cI m_allRows m_allColumns res.2.1 res.2.2.1 res.2.2.2.1 res.2.2.2.2.1 res.2.2.2.2.2.1 res.2.2.2.2.2.2.1 m_alarms m_rejects res.2.2.2.2.2.2.2.1 res.2.2.2.2.2.2.2.2.1 m_streamLong m_at m_place m_orders m_escaped m_broken m_signBefore m_free res.2.2.2.2.2.2.2.2.2.1 m_cutOff res.2.2.2.2.2.2.2.2.2.2.1 m_stream res.2.2.2.2.2.2.2.2.2.2.2) (va_A (wM hM hR hT hZ cI m_allRows m_allColumns m_rows m_columns m_cells m_cursor m_locked m_insert m_alarms m_rejects m_latest m_thrown m_streamLong m_at m_place m_orders m_escaped m_broken m_signBefore m_free m_waitsLong m_cutOff m_screen m_stream m_waits) sz)) 0 0 (va_A (wM hM hR hT hZ cI m_allRows m_allColumns m_rows m_columns m_cells m_cursor m_locked m_insert m_alarms m_rejects m_latest m_thrown m_streamLong m_at m_place m_orders m_escaped m_broken m_signBefore m_free m_waitsLong m_cutOff m_screen m_stream m_waits) sz) := by
  refine my_enter (cc := cX6_key) (maxL := 3) (ret := (some .int)) (Qc := my_Qi (S := Unit) (dC, dI) [(cI, .int)] res.1 (fun _ => wM hM hR hT hZ cI m_allRows m_allColumns res.2.1 res.2.2.1 res.2.2.2.1 res.2.2.2.2.1 res.2.2.2.2.2.1 res.2.2.2.2.2.2.1 m_alarms m_rejects res.2.2.2.2.2.2.2.1 res.2.2.2.2.2.2.2.2.1 m_streamLong m_at m_place m_orders m_escaped m_broken m_signBefore m_free res.2.2.2.2.2.2.2.2.2.1 m_cutOff res.2.2.2.2.2.2.2.2.2.2.1 m_stream res.2.2.2.2.2.2.2.2.2.2.2)) (by decide) rfl (Nat.le_of_ble_eq_true rfl) ?_
  intro p e s m below meth c A ls hx hb hr hml hts hown hlocks hnm hP hK hD hA hS hl
  have hown : s.vm.findClass RX6 = some m.cls := hown
  have hl : lv_has ls 3 [(0, .ref hM), (1, .int a1)] := hl
  have L38 : ∀ (v1 : Int32) (t0 : Bool) (z_m_rows : Int32) (z_m_columns : Int32) (z_m_cells : Int32) (z_m_cursor : Int32) (z_m_locked : Bool) (z_m_insert : Bool) (z_m_latest : Int32) (z_m_thrown : Int32) (z_m_waitsLong : Int32) (z_m_screen : Nat → Int32) (z_m_waits : Nat → Int32) (H : Heap) (locs : List Loc), f_X6_key_L38 m_allRows m_allColumns v1 t0 z_m_rows z_m_columns z_m_cells z_m_cursor z_m_locked z_m_insert z_m_latest z_m_thrown z_m_waitsLong z_m_screen z_m_waits = some res → va_P (dC, dI) vwCl (wM hM hR hT hZ cI m_allRows m_allColumns z_m_rows z_m_columns z_m_cells z_m_cursor z_m_locked z_m_insert m_alarms m_rejects z_m_latest z_m_thrown m_streamLong m_at m_place m_orders m_escaped m_broken m_signBefore m_free z_m_waitsLong m_cutOff z_m_screen m_stream z_m_waits) H → va_D A (wM hM hR hT hZ cI m_allRows m_allColumns z_m_rows z_m_columns z_m_cells z_m_cursor z_m_locked z_m_insert m_alarms m_rejects z_m_latest z_m_thrown m_streamLong m_at m_place m_orders m_escaped m_broken m_signBefore m_free z_m_waitsLong m_cutOff z_m_screen m_stream z_m_waits) → va_S A s.heap H locs → ∀ (ls : Array Slot), lv_has ls 3 [(0, .ref hM), (1, .int v1)] → W p l e (headSpec wsX6_key ({ frames := 7, cells := 0, slots := 0, locals := 152 })).room s m ([.ref hM, .int a1] : List Value).toArray below meth c H locs 0 0 (MQ below (my_Qi (S := Unit) (dC, dI) [(cI, .int)] res.1 (fun _ => wM hM hR hT hZ cI m_allRows m_allColumns res.2.1 res.2.2.1 res.2.2.2.1 res.2.2.2.2.1 res.2.2.2.2.2.1 res.2.2.2.2.2.2.1 m_alarms m_rejects res.2.2.2.2.2.2.2.1 res.2.2.2.2.2.2.2.2.1 m_streamLong m_at m_place m_orders m_escaped m_broken m_signBefore m_free res.2.2.2.2.2.2.2.2.2.1 m_cutOff res.2.2.2.2.2.2.2.2.2.2.1 m_stream res.2.2.2.2.2.2.2.2.2.2.2) A) ([.ref hM, .int a1] : List Value).toArray s 0 0 A) (F0 m 38 ls [.int (b2i t0)]) := by
    intro v1 t0 z_m_rows z_m_columns z_m_cells z_m_cursor z_m_locked z_m_insert z_m_latest z_m_thrown z_m_waitsLong z_m_screen z_m_waits H locs hf  hP hD hS ls hl
    unfold f_X6_key_L38 at hf
    refine lv_istore_n (lv' := [(2, .int (b2i t0)), (0, .ref hM), (1, .int v1)]) hx hb dX6_key_38 rfl hl (by decide) rfl (fun ls hl => ?_)
    refine lv_iload_n hx hb dX6_key_39 rfl (lv_at hl 0 rfl) ?_
    refine lv_if_ne (tgt := 45) hx hb dX6_key_40 (by decide) (fun c_1 => ?_) (fun c_1 => ?_)
    · have hf := (if_neg c_1).symm.trans hf
      refine lv_iload_n hx hb dX6_key_45 rfl (lv_at hl 2 rfl) ?_
      refine lv_bipush (v := 51) hx hb dX6_key_46 (by decide) ?_
      refine lv_icmp_ne (tgt := 63) hx hb dX6_key_48 (by decide) (fun c_2 => ?_) (fun c_2 => ?_)
      · have hf := (if_neg c_2).symm.trans hf
        refine lv_aload_n hx hb dX6_key_63 rfl (lv_at hl 1 rfl) ?_
        refine va_get (D := (dC, dI)) (ci := 7) (v := .int (b2i z_m_locked)) (C := RX6) (T := TX6) (N := 25) hx hb hts uu_X6_key_X6 hown hK hP 0 rfl rfl 7 (by decide) (hts (.fieldLink RX6 13 "BlockScreenModel" "locked" "Z") (List.mem_of_getElem? (i := 3) rfl)) (fun _ h9 => h9) rfl dX6_key_64 ?_
        refine lv_if_eq (tgt := 72) hx hb dX6_key_67 (by decide) (fun c_3 => ?_) (fun c_3 => ?_)
        · have hf := (if_pos c_3).symm.trans hf
          refine lv_iload_n hx hb dX6_key_72 rfl (lv_at hl 2 rfl) ?_
          refine lv_bipush (v := 48) hx hb dX6_key_73 (by decide) ?_
          refine lv_icmp_ne (tgt := 83) hx hb dX6_key_75 (by decide) (fun c_4 => ?_) (fun c_4 => ?_)
          · have hf := (if_neg c_4).symm.trans hf
            refine lv_iload_n hx hb dX6_key_83 rfl (lv_at hl 2 rfl) ?_
            refine lv_bipush (v := 52) hx hb dX6_key_84 (by decide) ?_
            refine lv_icmp_ne (tgt := 94) hx hb dX6_key_86 (by decide) (fun c_5 => ?_) (fun c_5 => ?_)
            · have hf := (if_neg c_5).symm.trans hf
              refine lv_iload_n hx hb dX6_key_94 rfl (lv_at hl 2 rfl) ?_
              refine lv_bipush (v := 49) hx hb dX6_key_95 (by decide) ?_
              refine lv_icmp_ne (tgt := 107) hx hb dX6_key_97 (by decide) (fun c_6 => ?_) (fun c_6 => ?_)
              · have hf := (if_neg c_6).symm.trans hf
                refine lv_iload_n hx hb dX6_key_107 rfl (lv_at hl 2 rfl) ?_
                refine lv_bipush (v := 50) hx hb dX6_key_108 (by decide) ?_
                refine lv_icmp_ne (tgt := 121) hx hb dX6_key_110 (by decide) (fun c_7 => ?_) (fun c_7 => ?_)
                · have hf := (if_neg c_7).symm.trans hf
                  refine lv_iload_n hx hb dX6_key_121 rfl (lv_at hl 2 rfl) ?_
                  refine lv_bipush (v := 40) hx hb dX6_key_122 (by decide) ?_
                  refine lv_icmp_lt (tgt := 139) hx hb dX6_key_124 (by decide) (fun c_8 => ?_) (fun c_8 => ?_)
                  · have hf := (if_pos c_8).symm.trans hf
                    refine lv_aload_n hx hb dX6_key_139 rfl (lv_at hl 1 rfl) ?_
                    refine lv_iload_n hx hb dX6_key_140 rfl (lv_at hl 2 rfl) ?_
                    obtain ⟨⟨m_rows_9, m_columns_9, m_cells_9, m_cursor_9, m_locked_9, m_latest_9, m_waitsLong_9, m_screen_9, m_waits_9⟩, hq_9, hf⟩ := ob_inv hf
                    refine my_cVv (As := [.int v1]) (rest := []) ⟨hx, hb, hml, hown, hts⟩ (c_X6_press l dC dI cI hM hR hT hZ m_allRows m_allColumns z_m_rows z_m_columns z_m_cells z_m_cursor z_m_locked z_m_insert m_alarms m_rejects z_m_latest z_m_thrown m_streamLong m_at m_place m_orders m_escaped m_broken m_signBefore m_free z_m_waitsLong m_cutOff z_m_screen m_stream z_m_waits _ v1 (m_rows_9, m_columns_9, m_cells_9, m_cursor_9, m_locked_9, m_latest_9, m_waitsLong_9, m_screen_9, m_waits_9) hq_9) (cwV 1 hts gX6_key_X6_press rfl rfl rfl (by decide +kernel) ⟨Nat.le_of_ble_eq_true rfl, Nat.le_of_ble_eq_true rfl⟩) hK hP hD hS hA 0 7 rfl rfl rfl hl.1 rfl (Nat.le_of_ble_eq_true rfl) dX6_key_141 ⟨Nat.zero_le _, Nat.zero_le _⟩ (fun _ H locs hP hD hS => ?_)
                    have hP : va_P (dC, dI) vwCl (wM hM hR hT hZ cI m_allRows m_allColumns m_rows_9 m_columns_9 m_cells_9 m_cursor_9 m_locked_9 z_m_insert m_alarms m_rejects m_latest_9 z_m_thrown m_streamLong m_at m_place m_orders m_escaped m_broken m_signBefore m_free m_waitsLong_9 m_cutOff m_screen_9 m_stream m_waits_9) H := hP
                    have hD : va_D A (wM hM hR hT hZ cI m_allRows m_allColumns m_rows_9 m_columns_9 m_cells_9 m_cursor_9 m_locked_9 z_m_insert m_alarms m_rejects m_latest_9 z_m_thrown m_streamLong m_at m_place m_orders m_escaped m_broken m_signBefore m_free m_waitsLong_9 m_cutOff m_screen_9 m_stream m_waits_9) := hD
                    refine lv_iconst (v := 1) hx hb dX6_key_144 (by decide) ?_
                    have hf := Option.some.inj hf
                    subst hf
                    exact my_reti () hx hb hr hlocks hK hP hD hS rfl dX6_key_145
                  · have hf := (if_neg c_8).symm.trans hf
                    refine lv_aload_n hx hb dX6_key_127 rfl (lv_at hl 1 rfl) ?_
                    refine lv_aload_n hx hb dX6_key_128 rfl (lv_at hl 1 rfl) ?_
                    refine lv_iload_n hx hb dX6_key_129 rfl (lv_at hl 2 rfl) ?_
                    obtain ⟨r_10, hq_10, hf⟩ := ob_inv hf
                    refine my_cVi (As := [.int v1]) (rest := [.ref hM]) ⟨hx, hb, hml, hown, hts⟩ (c_X6_move l dC dI cI hM hR hT hZ m_allRows m_allColumns z_m_rows z_m_columns z_m_cells z_m_cursor z_m_locked z_m_insert m_alarms m_rejects z_m_latest z_m_thrown m_streamLong m_at m_place m_orders m_escaped m_broken m_signBefore m_free z_m_waitsLong m_cutOff z_m_screen m_stream z_m_waits _ v1 r_10 hq_10) (cwV 1 hts gX6_key_X6_move rfl rfl rfl (by decide +kernel) ⟨Nat.le_of_ble_eq_true rfl, Nat.le_of_ble_eq_true rfl⟩) hK hP hD hS hA 0 7 rfl rfl rfl hl.1 rfl (Nat.le_of_ble_eq_true rfl) dX6_key_130 ⟨Nat.zero_le _, Nat.zero_le _⟩ (fun _ H locs hP hD hS => ?_)
                    have hP : va_P (dC, dI) vwCl (wM hM hR hT hZ cI m_allRows m_allColumns z_m_rows z_m_columns z_m_cells z_m_cursor z_m_locked z_m_insert m_alarms m_rejects z_m_latest z_m_thrown m_streamLong m_at m_place m_orders m_escaped m_broken m_signBefore m_free z_m_waitsLong m_cutOff z_m_screen m_stream z_m_waits) H := hP
                    have hD : va_D A (wM hM hR hT hZ cI m_allRows m_allColumns z_m_rows z_m_columns z_m_cells z_m_cursor z_m_locked z_m_insert m_alarms m_rejects z_m_latest z_m_thrown m_streamLong m_at m_place m_orders m_escaped m_broken m_signBefore m_free z_m_waitsLong m_cutOff z_m_screen m_stream z_m_waits) := hD
                    refine va_put (D := (dC, dI)) (ci := 7) (v := .int r_10) (C := RX6) (T := TX6) (N := 25) hx hb hts uu_X6_key_X6 tyX6 tyX6_ok nmX6 hown hK hP hD hS 0 rfl rfl 5 (by decide) (hts (.fieldLink RX6 49 "BlockScreenModel" "cursor" "I") (List.mem_of_getElem? (i := 4) rfl)) (fun _ h9 => h9) rfl (tyX6_ok 5 (by decide)) rfl rfl (Nat.le_of_ble_eq_true rfl) dX6_key_133 (fun H locs hP hD hS => ?_)
                    have hP : va_P (dC, dI) vwCl (wM hM hR hT hZ cI m_allRows m_allColumns z_m_rows z_m_columns z_m_cells r_10 z_m_locked z_m_insert m_alarms m_rejects z_m_latest z_m_thrown m_streamLong m_at m_place m_orders m_escaped m_broken m_signBefore m_free z_m_waitsLong m_cutOff z_m_screen m_stream z_m_waits) H := hP
                    have hD : va_D A (wM hM hR hT hZ cI m_allRows m_allColumns z_m_rows z_m_columns z_m_cells r_10 z_m_locked z_m_insert m_alarms m_rejects z_m_latest z_m_thrown m_streamLong m_at m_place m_orders m_escaped m_broken m_signBefore m_free z_m_waitsLong m_cutOff z_m_screen m_stream z_m_waits) := hD
                    refine lv_goto (tgt := 144) hx hb dX6_key_136 (by decide) ?_
                    refine lv_iconst (v := 1) hx hb dX6_key_144 (by decide) ?_
                    have hf := Option.some.inj hf
                    subst hf
                    exact my_reti () hx hb hr hlocks hK hP hD hS rfl dX6_key_145
                · have hf := (if_pos c_7).symm.trans hf
                  refine lv_aload_n hx hb dX6_key_113 rfl (lv_at hl 1 rfl) ?_
                  refine lv_iconst (v := 1) hx hb dX6_key_114 (by decide) ?_
                  refine va_put (D := (dC, dI)) (ci := 7) (v := .int 1) (C := RX6) (T := TX6) (N := 25) hx hb hts uu_X6_key_X6 tyX6 tyX6_ok nmX6 hown hK hP hD hS 0 rfl rfl 8 (by decide) (hts (.fieldLink RX6 204 "BlockScreenModel" "insert" "Z") (List.mem_of_getElem? (i := 2) rfl)) (fun _ h9 => h9) rfl (tyX6_ok 8 (by decide)) rfl rfl (Nat.le_of_ble_eq_true rfl) dX6_key_115 (fun H locs hP hD hS => ?_)
                  have hP : va_P (dC, dI) vwCl (wM hM hR hT hZ cI m_allRows m_allColumns z_m_rows z_m_columns z_m_cells z_m_cursor z_m_locked true m_alarms m_rejects z_m_latest z_m_thrown m_streamLong m_at m_place m_orders m_escaped m_broken m_signBefore m_free z_m_waitsLong m_cutOff z_m_screen m_stream z_m_waits) H := hP
                  have hD : va_D A (wM hM hR hT hZ cI m_allRows m_allColumns z_m_rows z_m_columns z_m_cells z_m_cursor z_m_locked true m_alarms m_rejects z_m_latest z_m_thrown m_streamLong m_at m_place m_orders m_escaped m_broken m_signBefore m_free z_m_waitsLong m_cutOff z_m_screen m_stream z_m_waits) := hD
                  refine lv_goto (tgt := 144) hx hb dX6_key_118 (by decide) ?_
                  refine lv_iconst (v := 1) hx hb dX6_key_144 (by decide) ?_
                  have hf := Option.some.inj hf
                  subst hf
                  exact my_reti () hx hb hr hlocks hK hP hD hS rfl dX6_key_145
              · have hf := (if_pos c_6).symm.trans hf
                refine lv_aload_n hx hb dX6_key_100 rfl (lv_at hl 1 rfl) ?_
                obtain ⟨⟨m_cursor_11, m_waitsLong_11, m_screen_11⟩, hq_11, hf⟩ := ob_inv hf
                refine my_cVv (As := []) (rest := []) ⟨hx, hb, hml, hown, hts⟩ (c_X6_eraseInput l dC dI cI hM hR hT hZ m_allRows m_allColumns z_m_rows z_m_columns z_m_cells z_m_cursor z_m_locked z_m_insert m_alarms m_rejects z_m_latest z_m_thrown m_streamLong m_at m_place m_orders m_escaped m_broken m_signBefore m_free z_m_waitsLong m_cutOff z_m_screen m_stream z_m_waits _  (m_cursor_11, m_waitsLong_11, m_screen_11) hq_11) (cwV 0 hts gX6_key_X6_eraseInput rfl rfl rfl (by decide +kernel) ⟨Nat.le_of_ble_eq_true rfl, Nat.le_of_ble_eq_true rfl⟩) hK hP hD hS hA 0 7 rfl rfl rfl hl.1 rfl (Nat.le_of_ble_eq_true rfl) dX6_key_101 ⟨Nat.zero_le _, Nat.zero_le _⟩ (fun _ H locs hP hD hS => ?_)
                have hP : va_P (dC, dI) vwCl (wM hM hR hT hZ cI m_allRows m_allColumns z_m_rows z_m_columns z_m_cells m_cursor_11 z_m_locked z_m_insert m_alarms m_rejects z_m_latest z_m_thrown m_streamLong m_at m_place m_orders m_escaped m_broken m_signBefore m_free m_waitsLong_11 m_cutOff m_screen_11 m_stream z_m_waits) H := hP
                have hD : va_D A (wM hM hR hT hZ cI m_allRows m_allColumns z_m_rows z_m_columns z_m_cells m_cursor_11 z_m_locked z_m_insert m_alarms m_rejects z_m_latest z_m_thrown m_streamLong m_at m_place m_orders m_escaped m_broken m_signBefore m_free m_waitsLong_11 m_cutOff m_screen_11 m_stream z_m_waits) := hD
                refine lv_goto (tgt := 144) hx hb dX6_key_104 (by decide) ?_
                refine lv_iconst (v := 1) hx hb dX6_key_144 (by decide) ?_
                have hf := Option.some.inj hf
                subst hf
                exact my_reti () hx hb hr hlocks hK hP hD hS rfl dX6_key_145
            · have hf := (if_pos c_5).symm.trans hf
              refine lv_aload_n hx hb dX6_key_89 rfl (lv_at hl 1 rfl) ?_
              obtain ⟨⟨r_12, m_locked_12, m_screen_12⟩, hq_12, hf⟩ := ob_inv hf
              refine my_cVi (As := []) (rest := []) ⟨hx, hb, hml, hown, hts⟩ (c_X6_deleteSign l dC dI cI hM hR hT hZ m_allRows m_allColumns z_m_rows z_m_columns z_m_cells z_m_cursor z_m_locked z_m_insert m_alarms m_rejects z_m_latest z_m_thrown m_streamLong m_at m_place m_orders m_escaped m_broken m_signBefore m_free z_m_waitsLong m_cutOff z_m_screen m_stream z_m_waits _  (r_12, m_locked_12, m_screen_12) hq_12) (cwV 0 hts gX6_key_X6_deleteSign rfl rfl rfl (by decide +kernel) ⟨Nat.le_of_ble_eq_true rfl, Nat.le_of_ble_eq_true rfl⟩) hK hP hD hS hA 0 7 rfl rfl rfl hl.1 rfl (Nat.le_of_ble_eq_true rfl) dX6_key_90 ⟨Nat.zero_le _, Nat.zero_le _⟩ (fun _ H locs hP hD hS => ?_)
              have hP : va_P (dC, dI) vwCl (wM hM hR hT hZ cI m_allRows m_allColumns z_m_rows z_m_columns z_m_cells z_m_cursor m_locked_12 z_m_insert m_alarms m_rejects z_m_latest z_m_thrown m_streamLong m_at m_place m_orders m_escaped m_broken m_signBefore m_free z_m_waitsLong m_cutOff m_screen_12 m_stream z_m_waits) H := hP
              have hD : va_D A (wM hM hR hT hZ cI m_allRows m_allColumns z_m_rows z_m_columns z_m_cells z_m_cursor m_locked_12 z_m_insert m_alarms m_rejects z_m_latest z_m_thrown m_streamLong m_at m_place m_orders m_escaped m_broken m_signBefore m_free z_m_waitsLong m_cutOff m_screen_12 m_stream z_m_waits) := hD
              have hf := Option.some.inj hf
              subst hf
              exact my_reti () hx hb hr hlocks hK hP hD hS rfl dX6_key_93
          · have hf := (if_pos c_4).symm.trans hf
            refine lv_aload_n hx hb dX6_key_78 rfl (lv_at hl 1 rfl) ?_
            obtain ⟨⟨r_13, m_locked_13, m_screen_13⟩, hq_13, hf⟩ := ob_inv hf
            refine my_cVi (As := []) (rest := []) ⟨hx, hb, hml, hown, hts⟩ (c_X6_eraseToEnd l dC dI cI hM hR hT hZ m_allRows m_allColumns z_m_rows z_m_columns z_m_cells z_m_cursor z_m_locked z_m_insert m_alarms m_rejects z_m_latest z_m_thrown m_streamLong m_at m_place m_orders m_escaped m_broken m_signBefore m_free z_m_waitsLong m_cutOff z_m_screen m_stream z_m_waits _  (r_13, m_locked_13, m_screen_13) hq_13) (cwV 0 hts gX6_key_X6_eraseToEnd rfl rfl rfl (by decide +kernel) ⟨Nat.le_of_ble_eq_true rfl, Nat.le_of_ble_eq_true rfl⟩) hK hP hD hS hA 0 7 rfl rfl rfl hl.1 rfl (Nat.le_of_ble_eq_true rfl) dX6_key_79 ⟨Nat.zero_le _, Nat.zero_le _⟩ (fun _ H locs hP hD hS => ?_)
            have hP : va_P (dC, dI) vwCl (wM hM hR hT hZ cI m_allRows m_allColumns z_m_rows z_m_columns z_m_cells z_m_cursor m_locked_13 z_m_insert m_alarms m_rejects z_m_latest z_m_thrown m_streamLong m_at m_place m_orders m_escaped m_broken m_signBefore m_free z_m_waitsLong m_cutOff m_screen_13 m_stream z_m_waits) H := hP
            have hD : va_D A (wM hM hR hT hZ cI m_allRows m_allColumns z_m_rows z_m_columns z_m_cells z_m_cursor m_locked_13 z_m_insert m_alarms m_rejects z_m_latest z_m_thrown m_streamLong m_at m_place m_orders m_escaped m_broken m_signBefore m_free z_m_waitsLong m_cutOff m_screen_13 m_stream z_m_waits) := hD
            have hf := Option.some.inj hf
            subst hf
            exact my_reti () hx hb hr hlocks hK hP hD hS rfl dX6_key_82
        · have hf := (if_neg c_3).symm.trans hf
          refine lv_iconst (v := 0) hx hb dX6_key_70 (by decide) ?_
          have hf := Option.some.inj hf
          subst hf
          exact my_reti () hx hb hr hlocks hK hP hD hS rfl dX6_key_71
      · have hf := (if_pos c_2).symm.trans hf
        refine lv_aload_n hx hb dX6_key_51 rfl (lv_at hl 1 rfl) ?_
        refine lv_iconst (v := 0) hx hb dX6_key_52 (by decide) ?_
        refine va_put (D := (dC, dI)) (ci := 7) (v := .int 0) (C := RX6) (T := TX6) (N := 25) hx hb hts uu_X6_key_X6 tyX6 tyX6_ok nmX6 hown hK hP hD hS 0 rfl rfl 8 (by decide) (hts (.fieldLink RX6 204 "BlockScreenModel" "insert" "Z") (List.mem_of_getElem? (i := 2) rfl)) (fun _ h9 => h9) rfl (tyX6_ok 8 (by decide)) rfl rfl (Nat.le_of_ble_eq_true rfl) dX6_key_53 (fun H locs hP hD hS => ?_)
        have hP : va_P (dC, dI) vwCl (wM hM hR hT hZ cI m_allRows m_allColumns z_m_rows z_m_columns z_m_cells z_m_cursor z_m_locked false m_alarms m_rejects z_m_latest z_m_thrown m_streamLong m_at m_place m_orders m_escaped m_broken m_signBefore m_free z_m_waitsLong m_cutOff z_m_screen m_stream z_m_waits) H := hP
        have hD : va_D A (wM hM hR hT hZ cI m_allRows m_allColumns z_m_rows z_m_columns z_m_cells z_m_cursor z_m_locked false m_alarms m_rejects z_m_latest z_m_thrown m_streamLong m_at m_place m_orders m_escaped m_broken m_signBefore m_free z_m_waitsLong m_cutOff z_m_screen m_stream z_m_waits) := hD
        refine lv_aload_n hx hb dX6_key_56 rfl (lv_at hl 1 rfl) ?_
        refine lv_iconst (v := 0) hx hb dX6_key_57 (by decide) ?_
        refine va_put (D := (dC, dI)) (ci := 7) (v := .int 0) (C := RX6) (T := TX6) (N := 25) hx hb hts uu_X6_key_X6 tyX6 tyX6_ok nmX6 hown hK hP hD hS 0 rfl rfl 7 (by decide) (hts (.fieldLink RX6 13 "BlockScreenModel" "locked" "Z") (List.mem_of_getElem? (i := 3) rfl)) (fun _ h9 => h9) rfl (tyX6_ok 7 (by decide)) rfl rfl (Nat.le_of_ble_eq_true rfl) dX6_key_58 (fun H locs hP hD hS => ?_)
        have hP : va_P (dC, dI) vwCl (wM hM hR hT hZ cI m_allRows m_allColumns z_m_rows z_m_columns z_m_cells z_m_cursor false false m_alarms m_rejects z_m_latest z_m_thrown m_streamLong m_at m_place m_orders m_escaped m_broken m_signBefore m_free z_m_waitsLong m_cutOff z_m_screen m_stream z_m_waits) H := hP
        have hD : va_D A (wM hM hR hT hZ cI m_allRows m_allColumns z_m_rows z_m_columns z_m_cells z_m_cursor false false m_alarms m_rejects z_m_latest z_m_thrown m_streamLong m_at m_place m_orders m_escaped m_broken m_signBefore m_free z_m_waitsLong m_cutOff z_m_screen m_stream z_m_waits) := hD
        refine lv_iconst (v := 1) hx hb dX6_key_61 (by decide) ?_
        have hf := Option.some.inj hf
        subst hf
        exact my_reti () hx hb hr hlocks hK hP hD hS rfl dX6_key_62
    · have hf := (if_pos c_1).symm.trans hf
      refine lv_iconst (v := (-1)) hx hb dX6_key_43 (by decide) ?_
      have hf := Option.some.inj hf
      subst hf
      exact my_reti () hx hb hr hlocks hK hP hD hS rfl dX6_key_44
  unfold f_X6_key at hf
  refine lv_aload_n hx hb dX6_key_0 rfl (lv_at hl 0 rfl) ?_
  refine lv_iconst (v := 0) hx hb dX6_key_1 (by decide) ?_
  refine va_put (D := (dC, dI)) (ci := 7) (v := .int 0) (C := RX6) (T := TX6) (N := 25) hx hb hts uu_X6_key_X6 tyX6 tyX6_ok nmX6 hown hK hP hD hS 0 rfl rfl 12 (by decide) (hts (.fieldLink RX6 37 "BlockScreenModel" "thrown" "I") (List.mem_of_getElem? (i := 1) rfl)) (fun _ h9 => h9) rfl (tyX6_ok 12 (by decide)) rfl rfl (Nat.le_of_ble_eq_true rfl) dX6_key_2 (fun H locs hP hD hS => ?_)
  have hP : va_P (dC, dI) vwCl (wM hM hR hT hZ cI m_allRows m_allColumns m_rows m_columns m_cells m_cursor m_locked m_insert m_alarms m_rejects m_latest 0 m_streamLong m_at m_place m_orders m_escaped m_broken m_signBefore m_free m_waitsLong m_cutOff m_screen m_stream m_waits) H := hP
  have hD : va_D A (wM hM hR hT hZ cI m_allRows m_allColumns m_rows m_columns m_cells m_cursor m_locked m_insert m_alarms m_rejects m_latest 0 m_streamLong m_at m_place m_orders m_escaped m_broken m_signBefore m_free m_waitsLong m_cutOff m_screen m_stream m_waits) := hD
  refine lv_iload_n hx hb dX6_key_5 rfl (lv_at hl 1 rfl) ?_
  refine my_cSi (As := [.int a1]) (rest := []) ⟨hx, hb, hml, hown, hts⟩ (c_X6_sendingKey l dC dI cI hM hR hT hZ m_allRows m_allColumns m_rows m_columns m_cells m_cursor m_locked m_insert m_alarms m_rejects m_latest 0 m_streamLong m_at m_place m_orders m_escaped m_broken m_signBefore m_free m_waitsLong m_cutOff m_screen m_stream m_waits _ a1 (f_X6_sendingKey  a1) rfl) (va_cwS 1 hts gX6_key_X6_sendingKey rfl rfl rfl (by decide +kernel) ⟨Nat.le_of_ble_eq_true rfl, Nat.le_of_ble_eq_true rfl⟩) hK hP hD hS hA rfl hl.1 rfl (Nat.le_of_ble_eq_true rfl) dX6_key_6 ⟨Nat.zero_le _, Nat.zero_le _⟩ (fun _ H locs hP hD hS => ?_)
  have hP : va_P (dC, dI) vwCl (wM hM hR hT hZ cI m_allRows m_allColumns m_rows m_columns m_cells m_cursor m_locked m_insert m_alarms m_rejects m_latest 0 m_streamLong m_at m_place m_orders m_escaped m_broken m_signBefore m_free m_waitsLong m_cutOff m_screen m_stream m_waits) H := hP
  have hD : va_D A (wM hM hR hT hZ cI m_allRows m_allColumns m_rows m_columns m_cells m_cursor m_locked m_insert m_alarms m_rejects m_latest 0 m_streamLong m_at m_place m_orders m_escaped m_broken m_signBefore m_free m_waitsLong m_cutOff m_screen m_stream m_waits) := hD
  refine lv_iconst (v := (-1)) hx hb dX6_key_9 (by decide) ?_
  refine lv_icmp_ne (tgt := 33) hx hb dX6_key_10 (by decide) (fun c_15 => ?_) (fun c_15 => ?_)
  · have hf := (if_neg c_15).symm.trans hf
    refine lv_iconst (v := 1) hx hb dX6_key_33 (by decide) ?_
    refine lv_goto (tgt := 38) hx hb dX6_key_34 (by decide) ?_
    exact L38  a1 true m_rows m_columns m_cells m_cursor m_locked m_insert m_latest 0 m_waitsLong m_screen m_waits _ _ hf  hP hD hS ls (lv_sub hl [0, 1] rfl)
  · have hf := (if_pos c_15).symm.trans hf
    refine lv_iload_n hx hb dX6_key_13 rfl (lv_at hl 1 rfl) ?_
    refine my_cSi (As := [.int a1]) (rest := []) ⟨hx, hb, hml, hown, hts⟩ (c_X6_shortKey l dC dI cI hM hR hT hZ m_allRows m_allColumns m_rows m_columns m_cells m_cursor m_locked m_insert m_alarms m_rejects m_latest 0 m_streamLong m_at m_place m_orders m_escaped m_broken m_signBefore m_free m_waitsLong m_cutOff m_screen m_stream m_waits _ a1 (f_X6_shortKey  a1) rfl) (va_cwS 1 hts gX6_key_X6_shortKey rfl rfl rfl (by decide +kernel) ⟨Nat.le_of_ble_eq_true rfl, Nat.le_of_ble_eq_true rfl⟩) hK hP hD hS hA rfl hl.1 rfl (Nat.le_of_ble_eq_true rfl) dX6_key_14 ⟨Nat.zero_le _, Nat.zero_le _⟩ (fun _ H locs hP hD hS => ?_)
    have hP : va_P (dC, dI) vwCl (wM hM hR hT hZ cI m_allRows m_allColumns m_rows m_columns m_cells m_cursor m_locked m_insert m_alarms m_rejects m_latest 0 m_streamLong m_at m_place m_orders m_escaped m_broken m_signBefore m_free m_waitsLong m_cutOff m_screen m_stream m_waits) H := hP
    have hD : va_D A (wM hM hR hT hZ cI m_allRows m_allColumns m_rows m_columns m_cells m_cursor m_locked m_insert m_alarms m_rejects m_latest 0 m_streamLong m_at m_place m_orders m_escaped m_broken m_signBefore m_free m_waitsLong m_cutOff m_screen m_stream m_waits) := hD
    refine lv_iconst (v := (-1)) hx hb dX6_key_17 (by decide) ?_
    refine lv_icmp_ne (tgt := 33) hx hb dX6_key_18 (by decide) (fun c_17 => ?_) (fun c_17 => ?_)
    · have hf := (if_neg c_17).symm.trans hf
      refine lv_iconst (v := 1) hx hb dX6_key_33 (by decide) ?_
      refine lv_goto (tgt := 38) hx hb dX6_key_34 (by decide) ?_
      exact L38  a1 true m_rows m_columns m_cells m_cursor m_locked m_insert m_latest 0 m_waitsLong m_screen m_waits _ _ hf  hP hD hS ls (lv_sub hl [0, 1] rfl)
    · have hf := (if_pos c_17).symm.trans hf
      refine lv_iload_n hx hb dX6_key_21 rfl (lv_at hl 1 rfl) ?_
      refine lv_bipush (v := 40) hx hb dX6_key_22 (by decide) ?_
      refine lv_icmp_lt (tgt := 37) hx hb dX6_key_24 (by decide) (fun c_18 => ?_) (fun c_18 => ?_)
      · have hf := (if_pos c_18).symm.trans hf
        refine lv_iconst (v := 0) hx hb dX6_key_37 (by decide) ?_
        exact L38  a1 false m_rows m_columns m_cells m_cursor m_locked m_insert m_latest 0 m_waitsLong m_screen m_waits _ _ hf  hP hD hS ls (lv_sub hl [0, 1] rfl)
      · have hf := (if_neg c_18).symm.trans hf
        refine lv_iload_n hx hb dX6_key_27 rfl (lv_at hl 1 rfl) ?_
        refine lv_bipush (v := 52) hx hb dX6_key_28 (by decide) ?_
        refine lv_icmp_gt (tgt := 37) hx hb dX6_key_30 (by decide) (fun c_19 => ?_) (fun c_19 => ?_)
        · have hf := (if_pos c_19).symm.trans hf
          refine lv_iconst (v := 0) hx hb dX6_key_37 (by decide) ?_
          exact L38  a1 false m_rows m_columns m_cells m_cursor m_locked m_insert m_latest 0 m_waitsLong m_screen m_waits _ _ hf  hP hD hS ls (lv_sub hl [0, 1] rfl)
        · have hf := (if_neg c_19).symm.trans hf
          refine lv_iconst (v := 1) hx hb dX6_key_33 (by decide) ?_
          refine lv_goto (tgt := 38) hx hb dX6_key_34 (by decide) ?_
          exact L38  a1 true m_rows m_columns m_cells m_cursor m_locked m_insert m_latest 0 m_waitsLong m_screen m_waits _ _ hf  hP hD hS ls (lv_sub hl [0, 1] rfl)

theorem uu_X6_makeRoom_X6 : ∀ w ∈ u_ws RX6 TX6 25, w ∈ wsX6_makeRoom := fun _ h => List.mem_cons_of_mem _ (List.mem_append_right _ h)
def f_X6_makeRoom_L49 (m_cells : Int32) (m_cursor : Int32) : Nat → Int32 → (Nat → Int32) → Option (Bool × (Nat → Int32))
  | 0, _, _ => none
  | fu + 1, v3, z_m_screen =>
    if v3 ≤ 0 then
    some (true, z_m_screen)
    else
    Option.bind (f_X6_round m_cells (m_cursor + v3)) (fun r_2 =>
    Option.bind (f_X6_round m_cells ((m_cursor + v3) - 1)) (fun r_3 =>
    if r_3 < 0 ∨ 5676 ≤ r_3.toNatClampNeg then none else
    if r_2 < 0 ∨ 5676 ≤ r_2.toNatClampNeg then none else
    f_X6_makeRoom_L49 m_cells m_cursor fu (v3 + (-1)) (upd z_m_screen r_2.toNatClampNeg (z_m_screen r_3.toNatClampNeg))))
def f_X6_makeRoom_L11 (m_cells : Int32) (m_cursor : Int32) : Nat → Int32 → Int32 → (Nat → Int32) → Option (Bool × (Nat → Int32))
  | 0, _, _, _ => none
  | fu + 1, v1, v2, z_m_screen =>
    if v1 ≤ v2 then
    if v2 = v1 then
    some (false, z_m_screen)
    else
    f_X6_makeRoom_L49 m_cells m_cursor FU v2 z_m_screen
    else
    Option.bind (f_X6_round m_cells (m_cursor + v2)) (fun r_8 =>
    if r_8 < 0 ∨ 5676 ≤ r_8.toNatClampNeg then none else
    if (z_m_screen r_8.toNatClampNeg) = 0 then
    if v2 = v1 then
    some (false, z_m_screen)
    else
    f_X6_makeRoom_L49 m_cells m_cursor FU v2 z_m_screen
    else
    f_X6_makeRoom_L11 m_cells m_cursor fu v1 (v2 + 1) z_m_screen)
def f_X6_makeRoom (m_cells : Int32) (m_cursor : Int32) (m_screen : Nat → Int32) : Option (Bool × (Nat → Int32)) :=
    Option.bind (f_X6_toEnd m_cells m_screen m_cursor) (fun r_12 =>
    f_X6_makeRoom_L11 m_cells m_cursor FU r_12 0 m_screen)
set_option maxHeartbeats 400000 in
set_option maxRecDepth 100000 in
theorem c_X6_makeRoom (l : Launch) (dC : Nat → ClassId) (dI : Nat → Nat → Nat) (cI : ClassId) (hM hR hT hZ : Nat) (m_allRows : Int32) (m_allColumns : Int32) (m_rows : Int32) (m_columns : Int32) (m_cells : Int32) (m_cursor : Int32) (m_locked : Bool) (m_insert : Bool) (m_alarms : Int32) (m_rejects : Int32) (m_latest : Int32) (m_thrown : Int32) (m_streamLong : Int32) (m_at : Int32) (m_place : Int32) (m_orders : Int32) (m_escaped : Bool) (m_broken : Bool) (m_signBefore : Bool) (m_free : Bool) (m_waitsLong : Int32) (m_cutOff : Bool) (m_screen : Nat → Int32) (m_stream : Nat → Int32) (m_waits : Nat → Int32) (sz : Nat)  (res : Bool × (Nat → Int32)) (hf : f_X6_makeRoom m_cells m_cursor m_screen = some res) : Met l yX6_makeRoom wsX6_makeRoom ({ frames := 3, cells := 0, slots := 0, locals := 65 }) (va_Pc [.ref hM] (my_Pre (dC, dI) [(cI, .int)] (wM hM hR hT hZ cI m_allRows m_allColumns m_rows m_columns m_cells m_cursor m_locked m_insert m_alarms m_rejects m_latest m_thrown m_streamLong m_at m_place m_orders m_escaped m_broken m_signBefore m_free m_waitsLong m_cutOff m_screen m_stream m_waits) sz)) (my_Qi (S := Unit) (dC, dI) [(cI, .int)] (b2i res.1) (fun _ => wM hM hR hT hZ cI m_allRows m_allColumns m_rows m_columns m_cells m_cursor m_locked m_insert m_alarms m_rejects m_latest m_thrown m_streamLong m_at m_place m_orders m_escaped m_broken m_signBefore m_free m_waitsLong m_cutOff res.2 m_stream m_waits) (va_A (wM hM hR hT hZ cI m_allRows m_allColumns m_rows m_columns m_cells m_cursor m_locked m_insert m_alarms m_rejects m_latest m_thrown m_streamLong m_at m_place m_orders m_escaped m_broken m_signBefore m_free m_waitsLong m_cutOff m_screen m_stream m_waits) sz)) 0 0 (va_A (wM hM hR hT hZ cI m_allRows m_allColumns m_rows m_columns m_cells m_cursor m_locked m_insert m_alarms m_rejects m_latest m_thrown m_streamLong m_at m_place m_orders m_escaped m_broken m_signBefore m_free m_waitsLong m_cutOff m_screen m_stream m_waits) sz) := by
  refine my_enter (cc := cX6_makeRoom) (maxL := 4) (ret := (some .boolean)) (Qc := my_Qi (S := Unit) (dC, dI) [(cI, .int)] (b2i res.1) (fun _ => wM hM hR hT hZ cI m_allRows m_allColumns m_rows m_columns m_cells m_cursor m_locked m_insert m_alarms m_rejects m_latest m_thrown m_streamLong m_at m_place m_orders m_escaped m_broken m_signBefore m_free m_waitsLong m_cutOff res.2 m_stream m_waits)) (by decide) rfl (Nat.le_of_ble_eq_true rfl) ?_
  intro p e s m below meth c A ls hx hb hr hml hts hown hlocks hnm hP hK hD hA hS hl
  have hown : s.vm.findClass RX6 = some m.cls := hown
  have hl : lv_has ls 4 [(0, .ref hM)] := hl
  have L49 : ∀ (fu : Nat) (v3 : Int32) (z_m_screen : Nat → Int32)  (H : Heap) (locs : List Loc), f_X6_makeRoom_L49 m_cells m_cursor fu v3 z_m_screen = some res → va_P (dC, dI) vwCl (wM hM hR hT hZ cI m_allRows m_allColumns m_rows m_columns m_cells m_cursor m_locked m_insert m_alarms m_rejects m_latest m_thrown m_streamLong m_at m_place m_orders m_escaped m_broken m_signBefore m_free m_waitsLong m_cutOff z_m_screen m_stream m_waits) H → va_D A (wM hM hR hT hZ cI m_allRows m_allColumns m_rows m_columns m_cells m_cursor m_locked m_insert m_alarms m_rejects m_latest m_thrown m_streamLong m_at m_place m_orders m_escaped m_broken m_signBefore m_free m_waitsLong m_cutOff z_m_screen m_stream m_waits) → va_S A s.heap H locs → ∀ (ls : Array Slot), lv_has ls 4 [(0, .ref hM), (3, .int v3)] → W p l e (headSpec wsX6_makeRoom ({ frames := 3, cells := 0, slots := 0, locals := 65 })).room s m ([.ref hM] : List Value).toArray below meth c H locs 0 0 (MQ below (my_Qi (S := Unit) (dC, dI) [(cI, .int)] (b2i res.1) (fun _ => wM hM hR hT hZ cI m_allRows m_allColumns m_rows m_columns m_cells m_cursor m_locked m_insert m_alarms m_rejects m_latest m_thrown m_streamLong m_at m_place m_orders m_escaped m_broken m_signBefore m_free m_waitsLong m_cutOff res.2 m_stream m_waits) A) ([.ref hM] : List Value).toArray s 0 0 A) (F0 m 49 ls []) := by
    intro fu
    induction fu with
    | zero =>
      intro v3 z_m_screen H locs hf
      rw [f_X6_makeRoom_L49.eq_1] at hf
      cases hf
    | succ fu ih =>
      intro v3 z_m_screen H locs hf  hP hD hS ls hl
      rw [f_X6_makeRoom_L49.eq_2] at hf
      refine lv_iload_n hx hb dX6_makeRoom_49 rfl (lv_at hl 1 rfl) ?_
      refine lv_if_le (tgt := 91) hx hb dX6_makeRoom_50 (by decide) (fun c_1 => ?_) (fun c_1 => ?_)
      · have hf := (if_pos c_1).symm.trans hf
        refine lv_iconst (v := 1) hx hb dX6_makeRoom_91 (by decide) ?_
        have hf := Option.some.inj hf
        subst hf
        exact my_retz () hx hb hr hlocks rfl hK hP hD hS rfl dX6_makeRoom_92
      · have hf := (if_neg c_1).symm.trans hf
        refine lv_aload_n hx hb dX6_makeRoom_53 rfl (lv_at hl 0 rfl) ?_
        refine va_get (D := (dC, dI)) (ci := 7) (v := .ref hR) (C := RX6) (T := TX6) (N := 25) hx hb hts uu_X6_makeRoom_X6 hown hK hP 0 rfl rfl 6 (by decide) (hts (.fieldLink RX6 7 "BlockScreenModel" "screen" "[I") (List.mem_of_getElem? (i := 2) rfl)) (fun _ h9 => h9) rfl dX6_makeRoom_54 ?_
        refine lv_aload_n hx hb dX6_makeRoom_57 rfl (lv_at hl 0 rfl) ?_
        refine lv_aload_n hx hb dX6_makeRoom_58 rfl (lv_at hl 0 rfl) ?_
        refine va_get (D := (dC, dI)) (ci := 7) (v := .int m_cursor) (C := RX6) (T := TX6) (N := 25) hx hb hts uu_X6_makeRoom_X6 hown hK hP 0 rfl rfl 5 (by decide) (hts (.fieldLink RX6 49 "BlockScreenModel" "cursor" "I") (List.mem_of_getElem? (i := 1) rfl)) (fun _ h9 => h9) rfl dX6_makeRoom_59 ?_
        refine lv_iload_n hx hb dX6_makeRoom_62 rfl (lv_at hl 1 rfl) ?_
        refine lv_iadd hx hb dX6_makeRoom_63 ?_
        obtain ⟨r_2, hq_2, hf⟩ := ob_inv hf
        refine my_cVi (As := [.int (m_cursor + v3)]) (rest := [.ref hR]) ⟨hx, hb, hml, hown, hts⟩ (c_X6_round l dC dI cI hM hR hT hZ m_allRows m_allColumns m_rows m_columns m_cells m_cursor m_locked m_insert m_alarms m_rejects m_latest m_thrown m_streamLong m_at m_place m_orders m_escaped m_broken m_signBefore m_free m_waitsLong m_cutOff z_m_screen m_stream m_waits _ (m_cursor + v3) r_2 hq_2) (cwV 1 hts gX6_makeRoom_X6_round rfl rfl rfl (by decide +kernel) ⟨Nat.le_of_ble_eq_true rfl, Nat.le_of_ble_eq_true rfl⟩) hK hP hD hS hA 0 7 rfl rfl rfl hl.1 rfl (Nat.le_of_ble_eq_true rfl) dX6_makeRoom_64 ⟨Nat.zero_le _, Nat.zero_le _⟩ (fun _ H locs hP hD hS => ?_)
        have hP : va_P (dC, dI) vwCl (wM hM hR hT hZ cI m_allRows m_allColumns m_rows m_columns m_cells m_cursor m_locked m_insert m_alarms m_rejects m_latest m_thrown m_streamLong m_at m_place m_orders m_escaped m_broken m_signBefore m_free m_waitsLong m_cutOff z_m_screen m_stream m_waits) H := hP
        have hD : va_D A (wM hM hR hT hZ cI m_allRows m_allColumns m_rows m_columns m_cells m_cursor m_locked m_insert m_alarms m_rejects m_latest m_thrown m_streamLong m_at m_place m_orders m_escaped m_broken m_signBefore m_free m_waitsLong m_cutOff z_m_screen m_stream m_waits) := hD
        refine lv_aload_n hx hb dX6_makeRoom_67 rfl (lv_at hl 0 rfl) ?_
        refine va_get (D := (dC, dI)) (ci := 7) (v := .ref hR) (C := RX6) (T := TX6) (N := 25) hx hb hts uu_X6_makeRoom_X6 hown hK hP 0 rfl rfl 6 (by decide) (hts (.fieldLink RX6 7 "BlockScreenModel" "screen" "[I") (List.mem_of_getElem? (i := 2) rfl)) (fun _ h9 => h9) rfl dX6_makeRoom_68 ?_
        refine lv_aload_n hx hb dX6_makeRoom_71 rfl (lv_at hl 0 rfl) ?_
        refine lv_aload_n hx hb dX6_makeRoom_72 rfl (lv_at hl 0 rfl) ?_
        refine va_get (D := (dC, dI)) (ci := 7) (v := .int m_cursor) (C := RX6) (T := TX6) (N := 25) hx hb hts uu_X6_makeRoom_X6 hown hK hP 0 rfl rfl 5 (by decide) (hts (.fieldLink RX6 49 "BlockScreenModel" "cursor" "I") (List.mem_of_getElem? (i := 1) rfl)) (fun _ h9 => h9) rfl dX6_makeRoom_73 ?_
        refine lv_iload_n hx hb dX6_makeRoom_76 rfl (lv_at hl 1 rfl) ?_
        refine lv_iadd hx hb dX6_makeRoom_77 ?_
        refine lv_iconst (v := 1) hx hb dX6_makeRoom_78 (by decide) ?_
        refine lv_isub hx hb dX6_makeRoom_79 ?_
        obtain ⟨r_3, hq_3, hf⟩ := ob_inv hf
        refine my_cVi (As := [.int ((m_cursor + v3) - 1)]) (rest := [.ref hR, .int r_2, .ref hR]) ⟨hx, hb, hml, hown, hts⟩ (c_X6_round l dC dI cI hM hR hT hZ m_allRows m_allColumns m_rows m_columns m_cells m_cursor m_locked m_insert m_alarms m_rejects m_latest m_thrown m_streamLong m_at m_place m_orders m_escaped m_broken m_signBefore m_free m_waitsLong m_cutOff z_m_screen m_stream m_waits _ ((m_cursor + v3) - 1) r_3 hq_3) (cwV 1 hts gX6_makeRoom_X6_round rfl rfl rfl (by decide +kernel) ⟨Nat.le_of_ble_eq_true rfl, Nat.le_of_ble_eq_true rfl⟩) hK hP hD hS hA 0 7 rfl rfl rfl hl.1 rfl (Nat.le_of_ble_eq_true rfl) dX6_makeRoom_80 ⟨Nat.zero_le _, Nat.zero_le _⟩ (fun _ H locs hP hD hS => ?_)
        have hP : va_P (dC, dI) vwCl (wM hM hR hT hZ cI m_allRows m_allColumns m_rows m_columns m_cells m_cursor m_locked m_insert m_alarms m_rejects m_latest m_thrown m_streamLong m_at m_place m_orders m_escaped m_broken m_signBefore m_free m_waitsLong m_cutOff z_m_screen m_stream m_waits) H := hP
        have hD : va_D A (wM hM hR hT hZ cI m_allRows m_allColumns m_rows m_columns m_cells m_cursor m_locked m_insert m_alarms m_rejects m_latest m_thrown m_streamLong m_at m_place m_orders m_escaped m_broken m_signBefore m_free m_waitsLong m_cutOff z_m_screen m_stream m_waits) := hD
        rcases Classical.em (r_3 < 0 ∨ 5676 ≤ r_3.toNatClampNeg) with c_4 | c_4
        · exact nn_abs ((if_pos c_4).symm.trans hf)
        have hf := (if_neg c_4).symm.trans hf
        refine va_iald hx hb hK hP 1 0 rfl rfl c_4 dX6_makeRoom_83 ?_
        rcases Classical.em (r_2 < 0 ∨ 5676 ≤ r_2.toNatClampNeg) with c_5 | c_5
        · exact nn_abs ((if_pos c_5).symm.trans hf)
        have hf := (if_neg c_5).symm.trans hf
        refine va_iast hx hb hK hP hD hS 1 0 rfl rfl c_5 dX6_makeRoom_84 (fun H locs hP hD hS => ?_)
        have hP : va_P (dC, dI) vwCl (wM hM hR hT hZ cI m_allRows m_allColumns m_rows m_columns m_cells m_cursor m_locked m_insert m_alarms m_rejects m_latest m_thrown m_streamLong m_at m_place m_orders m_escaped m_broken m_signBefore m_free m_waitsLong m_cutOff (upd z_m_screen r_2.toNatClampNeg (z_m_screen r_3.toNatClampNeg)) m_stream m_waits) H := hP
        have hD : va_D A (wM hM hR hT hZ cI m_allRows m_allColumns m_rows m_columns m_cells m_cursor m_locked m_insert m_alarms m_rejects m_latest m_thrown m_streamLong m_at m_place m_orders m_escaped m_broken m_signBefore m_free m_waitsLong m_cutOff (upd z_m_screen r_2.toNatClampNeg (z_m_screen r_3.toNatClampNeg)) m_stream m_waits) := hD
        refine lv_iinc (v := v3 + (-1)) (lv' := [(3, .int (v3 + (-1))), (0, .ref hM)]) hx hb dX6_makeRoom_85 hl (k := 1) rfl rfl (by decide) rfl (fun ls hl => ?_)
        refine lv_goto (tgt := 49) hx hb dX6_makeRoom_88 (by decide) ?_
        exact ih (v3 + (-1)) (upd z_m_screen r_2.toNatClampNeg (z_m_screen r_3.toNatClampNeg)) _ _ hf  hP hD hS ls (lv_sub hl [1, 0] rfl)
  have L11 : ∀ (fu : Nat) (v1 : Int32) (v2 : Int32) (z_m_screen : Nat → Int32)  (H : Heap) (locs : List Loc), f_X6_makeRoom_L11 m_cells m_cursor fu v1 v2 z_m_screen = some res → va_P (dC, dI) vwCl (wM hM hR hT hZ cI m_allRows m_allColumns m_rows m_columns m_cells m_cursor m_locked m_insert m_alarms m_rejects m_latest m_thrown m_streamLong m_at m_place m_orders m_escaped m_broken m_signBefore m_free m_waitsLong m_cutOff z_m_screen m_stream m_waits) H → va_D A (wM hM hR hT hZ cI m_allRows m_allColumns m_rows m_columns m_cells m_cursor m_locked m_insert m_alarms m_rejects m_latest m_thrown m_streamLong m_at m_place m_orders m_escaped m_broken m_signBefore m_free m_waitsLong m_cutOff z_m_screen m_stream m_waits) → va_S A s.heap H locs → ∀ (ls : Array Slot), lv_has ls 4 [(0, .ref hM), (1, .int v1), (2, .int v2)] → W p l e (headSpec wsX6_makeRoom ({ frames := 3, cells := 0, slots := 0, locals := 65 })).room s m ([.ref hM] : List Value).toArray below meth c H locs 0 0 (MQ below (my_Qi (S := Unit) (dC, dI) [(cI, .int)] (b2i res.1) (fun _ => wM hM hR hT hZ cI m_allRows m_allColumns m_rows m_columns m_cells m_cursor m_locked m_insert m_alarms m_rejects m_latest m_thrown m_streamLong m_at m_place m_orders m_escaped m_broken m_signBefore m_free m_waitsLong m_cutOff res.2 m_stream m_waits) A) ([.ref hM] : List Value).toArray s 0 0 A) (F0 m 11 ls []) := by
    intro fu
    induction fu with
    | zero =>
      intro v1 v2 z_m_screen H locs hf
      rw [f_X6_makeRoom_L11.eq_1] at hf
      cases hf
    | succ fu ih =>
      intro v1 v2 z_m_screen H locs hf  hP hD hS ls hl
      rw [f_X6_makeRoom_L11.eq_2] at hf
      refine lv_iload_n hx hb dX6_makeRoom_11 rfl (lv_at hl 2 rfl) ?_
      refine lv_iload_n hx hb dX6_makeRoom_12 rfl (lv_at hl 1 rfl) ?_
      refine lv_icmp_ge (tgt := 40) hx hb dX6_makeRoom_13 (by decide) (fun c_6 => ?_) (fun c_6 => ?_)
      · have hf := (if_pos c_6).symm.trans hf
        refine lv_iload_n hx hb dX6_makeRoom_40 rfl (lv_at hl 2 rfl) ?_
        refine lv_iload_n hx hb dX6_makeRoom_41 rfl (lv_at hl 1 rfl) ?_
        refine lv_icmp_ne (tgt := 47) hx hb dX6_makeRoom_42 (by decide) (fun c_7 => ?_) (fun c_7 => ?_)
        · have hf := (if_neg c_7).symm.trans hf
          refine lv_iload_n hx hb dX6_makeRoom_47 rfl (lv_at hl 2 rfl) ?_
          refine lv_istore_n (lv' := [(3, .int v2), (0, .ref hM), (1, .int v1), (2, .int v2)]) hx hb dX6_makeRoom_48 rfl hl (by decide) rfl (fun ls hl => ?_)
          exact L49 FU v2 z_m_screen _ _ hf  hP hD hS ls (lv_sub hl [1, 0] rfl)
        · have hf := (if_pos c_7).symm.trans hf
          refine lv_iconst (v := 0) hx hb dX6_makeRoom_45 (by decide) ?_
          have hf := Option.some.inj hf
          subst hf
          exact my_retz () hx hb hr hlocks rfl hK hP hD hS rfl dX6_makeRoom_46
      · have hf := (if_neg c_6).symm.trans hf
        refine lv_aload_n hx hb dX6_makeRoom_16 rfl (lv_at hl 0 rfl) ?_
        refine va_get (D := (dC, dI)) (ci := 7) (v := .ref hR) (C := RX6) (T := TX6) (N := 25) hx hb hts uu_X6_makeRoom_X6 hown hK hP 0 rfl rfl 6 (by decide) (hts (.fieldLink RX6 7 "BlockScreenModel" "screen" "[I") (List.mem_of_getElem? (i := 2) rfl)) (fun _ h9 => h9) rfl dX6_makeRoom_17 ?_
        refine lv_aload_n hx hb dX6_makeRoom_20 rfl (lv_at hl 0 rfl) ?_
        refine lv_aload_n hx hb dX6_makeRoom_21 rfl (lv_at hl 0 rfl) ?_
        refine va_get (D := (dC, dI)) (ci := 7) (v := .int m_cursor) (C := RX6) (T := TX6) (N := 25) hx hb hts uu_X6_makeRoom_X6 hown hK hP 0 rfl rfl 5 (by decide) (hts (.fieldLink RX6 49 "BlockScreenModel" "cursor" "I") (List.mem_of_getElem? (i := 1) rfl)) (fun _ h9 => h9) rfl dX6_makeRoom_22 ?_
        refine lv_iload_n hx hb dX6_makeRoom_25 rfl (lv_at hl 2 rfl) ?_
        refine lv_iadd hx hb dX6_makeRoom_26 ?_
        obtain ⟨r_8, hq_8, hf⟩ := ob_inv hf
        refine my_cVi (As := [.int (m_cursor + v2)]) (rest := [.ref hR]) ⟨hx, hb, hml, hown, hts⟩ (c_X6_round l dC dI cI hM hR hT hZ m_allRows m_allColumns m_rows m_columns m_cells m_cursor m_locked m_insert m_alarms m_rejects m_latest m_thrown m_streamLong m_at m_place m_orders m_escaped m_broken m_signBefore m_free m_waitsLong m_cutOff z_m_screen m_stream m_waits _ (m_cursor + v2) r_8 hq_8) (cwV 1 hts gX6_makeRoom_X6_round rfl rfl rfl (by decide +kernel) ⟨Nat.le_of_ble_eq_true rfl, Nat.le_of_ble_eq_true rfl⟩) hK hP hD hS hA 0 7 rfl rfl rfl hl.1 rfl (Nat.le_of_ble_eq_true rfl) dX6_makeRoom_27 ⟨Nat.zero_le _, Nat.zero_le _⟩ (fun _ H locs hP hD hS => ?_)
        have hP : va_P (dC, dI) vwCl (wM hM hR hT hZ cI m_allRows m_allColumns m_rows m_columns m_cells m_cursor m_locked m_insert m_alarms m_rejects m_latest m_thrown m_streamLong m_at m_place m_orders m_escaped m_broken m_signBefore m_free m_waitsLong m_cutOff z_m_screen m_stream m_waits) H := hP
        have hD : va_D A (wM hM hR hT hZ cI m_allRows m_allColumns m_rows m_columns m_cells m_cursor m_locked m_insert m_alarms m_rejects m_latest m_thrown m_streamLong m_at m_place m_orders m_escaped m_broken m_signBefore m_free m_waitsLong m_cutOff z_m_screen m_stream m_waits) := hD
        rcases Classical.em (r_8 < 0 ∨ 5676 ≤ r_8.toNatClampNeg) with c_9 | c_9
        · exact nn_abs ((if_pos c_9).symm.trans hf)
        have hf := (if_neg c_9).symm.trans hf
        refine va_iald hx hb hK hP 1 0 rfl rfl c_9 dX6_makeRoom_30 ?_
        refine lv_if_eq (tgt := 40) hx hb dX6_makeRoom_31 (by decide) (fun c_10 => ?_) (fun c_10 => ?_)
        · have hf := (if_pos c_10).symm.trans hf
          refine lv_iload_n hx hb dX6_makeRoom_40 rfl (lv_at hl 2 rfl) ?_
          refine lv_iload_n hx hb dX6_makeRoom_41 rfl (lv_at hl 1 rfl) ?_
          refine lv_icmp_ne (tgt := 47) hx hb dX6_makeRoom_42 (by decide) (fun c_11 => ?_) (fun c_11 => ?_)
          · have hf := (if_neg c_11).symm.trans hf
            refine lv_iload_n hx hb dX6_makeRoom_47 rfl (lv_at hl 2 rfl) ?_
            refine lv_istore_n (lv' := [(3, .int v2), (0, .ref hM), (1, .int v1), (2, .int v2)]) hx hb dX6_makeRoom_48 rfl hl (by decide) rfl (fun ls hl => ?_)
            exact L49 FU v2 z_m_screen _ _ hf  hP hD hS ls (lv_sub hl [1, 0] rfl)
          · have hf := (if_pos c_11).symm.trans hf
            refine lv_iconst (v := 0) hx hb dX6_makeRoom_45 (by decide) ?_
            have hf := Option.some.inj hf
            subst hf
            exact my_retz () hx hb hr hlocks rfl hK hP hD hS rfl dX6_makeRoom_46
        · have hf := (if_neg c_10).symm.trans hf
          refine lv_iinc (v := v2 + 1) (lv' := [(2, .int (v2 + 1)), (0, .ref hM), (1, .int v1)]) hx hb dX6_makeRoom_34 hl (k := 2) rfl rfl (by decide) rfl (fun ls hl => ?_)
          refine lv_goto (tgt := 11) hx hb dX6_makeRoom_37 (by decide) ?_
          exact ih v1 (v2 + 1) z_m_screen _ _ hf  hP hD hS ls (lv_sub hl [1, 2, 0] rfl)
  unfold f_X6_makeRoom at hf
  refine lv_aload_n hx hb dX6_makeRoom_0 rfl (lv_at hl 0 rfl) ?_
  refine lv_aload_n hx hb dX6_makeRoom_1 rfl (lv_at hl 0 rfl) ?_
  refine va_get (D := (dC, dI)) (ci := 7) (v := .int m_cursor) (C := RX6) (T := TX6) (N := 25) hx hb hts uu_X6_makeRoom_X6 hown hK hP 0 rfl rfl 5 (by decide) (hts (.fieldLink RX6 49 "BlockScreenModel" "cursor" "I") (List.mem_of_getElem? (i := 1) rfl)) (fun _ h9 => h9) rfl dX6_makeRoom_2 ?_
  obtain ⟨r_12, hq_12, hf⟩ := ob_inv hf
  refine my_cVi (As := [.int m_cursor]) (rest := []) ⟨hx, hb, hml, hown, hts⟩ (c_X6_toEnd l dC dI cI hM hR hT hZ m_allRows m_allColumns m_rows m_columns m_cells m_cursor m_locked m_insert m_alarms m_rejects m_latest m_thrown m_streamLong m_at m_place m_orders m_escaped m_broken m_signBefore m_free m_waitsLong m_cutOff m_screen m_stream m_waits _ m_cursor r_12 hq_12) (cwV 1 hts gX6_makeRoom_X6_toEnd rfl rfl rfl (by decide +kernel) ⟨Nat.le_of_ble_eq_true rfl, Nat.le_of_ble_eq_true rfl⟩) hK hP hD hS hA 0 7 rfl rfl rfl hl.1 rfl (Nat.le_of_ble_eq_true rfl) dX6_makeRoom_5 ⟨Nat.zero_le _, Nat.zero_le _⟩ (fun _ H locs hP hD hS => ?_)
  have hP : va_P (dC, dI) vwCl (wM hM hR hT hZ cI m_allRows m_allColumns m_rows m_columns m_cells m_cursor m_locked m_insert m_alarms m_rejects m_latest m_thrown m_streamLong m_at m_place m_orders m_escaped m_broken m_signBefore m_free m_waitsLong m_cutOff m_screen m_stream m_waits) H := hP
  have hD : va_D A (wM hM hR hT hZ cI m_allRows m_allColumns m_rows m_columns m_cells m_cursor m_locked m_insert m_alarms m_rejects m_latest m_thrown m_streamLong m_at m_place m_orders m_escaped m_broken m_signBefore m_free m_waitsLong m_cutOff m_screen m_stream m_waits) := hD
  refine lv_istore_n (lv' := [(1, .int r_12), (0, .ref hM)]) hx hb dX6_makeRoom_8 rfl hl (by decide) rfl (fun ls hl => ?_)
  refine lv_iconst (v := 0) hx hb dX6_makeRoom_9 (by decide) ?_
  refine lv_istore_n (lv' := [(2, .int 0), (1, .int r_12), (0, .ref hM)]) hx hb dX6_makeRoom_10 rfl hl (by decide) rfl (fun ls hl => ?_)
  exact L11 FU r_12 0 m_screen _ _ hf  hP hD hS ls (lv_sub hl [2, 1, 0] rfl)

theorem uu_X6_type_X6 : ∀ w ∈ u_ws RX6 TX6 25, w ∈ wsX6_type := fun _ h => List.mem_cons_of_mem _ (List.mem_append_right _ h)
def f_X6_type_L114 (m_cells : Int32) (m_insert : Bool) (v1 : Int32) (z_m_cursor : Int32) (z_m_locked : Bool) (z_m_thrown : Int32) (z_m_screen : Nat → Int32) : Option (Int32 × Int32 × Bool × Int32 × (Nat → Int32)) :=
    if z_m_cursor < 0 ∨ 5676 ≤ z_m_cursor.toNatClampNeg then none else
    Option.bind (f_X6_modify m_cells (upd z_m_screen z_m_cursor.toNatClampNeg v1) z_m_cursor) (fun m_screen_2 =>
    Option.bind (f_X6_round m_cells (z_m_cursor + 1)) (fun r_3 =>
    Option.bind (f_X6_isAttribute m_screen_2 r_3) (fun r_4 =>
    if (b2i r_4) = 0 then
    some (1, r_3, z_m_locked, z_m_thrown, m_screen_2)
    else
    if r_3 < 0 ∨ 5676 ≤ r_3.toNatClampNeg then none else
    if ((m_screen_2 r_3.toNatClampNeg) &&& 32) = 0 then
    Option.bind (f_X6_round m_cells (r_3 + 1)) (fun r_9 =>
    some (1, r_9, z_m_locked, z_m_thrown, m_screen_2))
    else
    if ((m_screen_2 r_3.toNatClampNeg) &&& 16) = 0 then
    Option.bind (f_X6_round m_cells (r_3 + 1)) (fun r_12 =>
    some (1, r_12, z_m_locked, z_m_thrown, m_screen_2))
    else
    Option.bind (f_X6_tab m_cells m_screen_2 r_3) (fun r_14 =>
    some (1, r_14, z_m_locked, z_m_thrown, m_screen_2)))))
def f_X6_type_L60 (m_cells : Int32) (m_insert : Bool) (v1 : Int32) (t0 : Bool) (z_m_cursor : Int32) (z_m_locked : Bool) (z_m_thrown : Int32) (z_m_screen : Nat → Int32) : Option (Int32 × Int32 × Bool × Int32 × (Nat → Int32)) :=
    Option.bind (f_X6_mayBeTyped m_cells z_m_screen z_m_cursor) (fun r_15 =>
    if (b2i r_15) = 0 then
    thn (f_X6_refuse z_m_locked) (fun (r_17, m_locked_17) =>
    some (r_17, z_m_cursor, m_locked_17, z_m_thrown, z_m_screen))
    else
    Option.bind (f_X6_attributeOf m_cells z_m_screen z_m_cursor) (fun r_18 =>
    if (r_18 &&& 16) = 0 then
    if (b2i m_insert) = 0 then
    f_X6_type_L114 m_cells m_insert  v1 z_m_cursor z_m_locked z_m_thrown z_m_screen
    else
    Option.bind (f_X6_makeRoom m_cells z_m_cursor z_m_screen) (fun (r_21, m_screen_21) =>
    if (b2i r_21) = 0 then
    thn (f_X6_refuse z_m_locked) (fun (r_23, m_locked_23) =>
    some (r_23, z_m_cursor, m_locked_23, z_m_thrown, m_screen_21))
    else
    f_X6_type_L114 m_cells m_insert  v1 z_m_cursor z_m_locked z_m_thrown m_screen_21)
    else
    if (b2i t0) = 0 then
    thn (f_X6_refuse z_m_locked) (fun (r_29, m_locked_29) =>
    some (r_29, z_m_cursor, m_locked_29, z_m_thrown, z_m_screen))
    else
    if (b2i m_insert) = 0 then
    f_X6_type_L114 m_cells m_insert  v1 z_m_cursor z_m_locked z_m_thrown z_m_screen
    else
    Option.bind (f_X6_makeRoom m_cells z_m_cursor z_m_screen) (fun (r_26, m_screen_26) =>
    if (b2i r_26) = 0 then
    thn (f_X6_refuse z_m_locked) (fun (r_28, m_locked_28) =>
    some (r_28, z_m_cursor, m_locked_28, z_m_thrown, m_screen_26))
    else
    f_X6_type_L114 m_cells m_insert  v1 z_m_cursor z_m_locked z_m_thrown m_screen_26)))
def f_X6_type (m_cells : Int32) (m_cursor : Int32) (m_locked : Bool) (m_insert : Bool) (m_thrown : Int32) (m_screen : Nat → Int32) (a1 : Int32) : Option (Int32 × Int32 × Bool × Int32 × (Nat → Int32)) :=
    if a1 < 64 then
    some ((-1), m_cursor, m_locked, 0, m_screen)
    else
    if a1 ≤ 254 then
    if (b2i m_locked) = 0 then
    if a1 < 240 then
    if a1 = 75 then
    f_X6_type_L60 m_cells m_insert  a1 true m_cursor m_locked 0 m_screen
    else
    if a1 = 96 then
    f_X6_type_L60 m_cells m_insert  a1 true m_cursor m_locked 0 m_screen
    else
    f_X6_type_L60 m_cells m_insert  a1 false m_cursor m_locked 0 m_screen
    else
    if a1 ≤ 249 then
    f_X6_type_L60 m_cells m_insert  a1 true m_cursor m_locked 0 m_screen
    else
    if a1 = 75 then
    f_X6_type_L60 m_cells m_insert  a1 true m_cursor m_locked 0 m_screen
    else
    if a1 = 96 then
    f_X6_type_L60 m_cells m_insert  a1 true m_cursor m_locked 0 m_screen
    else
    f_X6_type_L60 m_cells m_insert  a1 false m_cursor m_locked 0 m_screen
    else
    some (0, m_cursor, m_locked, 0, m_screen)
    else
    some ((-1), m_cursor, m_locked, 0, m_screen)
set_option maxHeartbeats 400000 in
set_option maxRecDepth 100000 in
theorem c_X6_type (l : Launch) (dC : Nat → ClassId) (dI : Nat → Nat → Nat) (cI : ClassId) (hM hR hT hZ : Nat) (m_allRows : Int32) (m_allColumns : Int32) (m_rows : Int32) (m_columns : Int32) (m_cells : Int32) (m_cursor : Int32) (m_locked : Bool) (m_insert : Bool) (m_alarms : Int32) (m_rejects : Int32) (m_latest : Int32) (m_thrown : Int32) (m_streamLong : Int32) (m_at : Int32) (m_place : Int32) (m_orders : Int32) (m_escaped : Bool) (m_broken : Bool) (m_signBefore : Bool) (m_free : Bool) (m_waitsLong : Int32) (m_cutOff : Bool) (m_screen : Nat → Int32) (m_stream : Nat → Int32) (m_waits : Nat → Int32) (sz : Nat) (a1 : Int32) (res : Int32 × Int32 × Bool × Int32 × (Nat → Int32)) (hf : f_X6_type m_cells m_cursor m_locked m_insert m_thrown m_screen a1 = some res) : Met l yX6_type wsX6_type ({ frames := 5, cells := 0, slots := 0, locals := 107 }) (va_Pc [.ref hM, .int a1] (my_Pre (dC, dI) [(cI, .int)] (wM hM hR hT hZ cI m_allRows m_allColumns m_rows m_columns m_cells m_cursor m_locked m_insert m_alarms m_rejects m_latest m_thrown m_streamLong m_at m_place m_orders m_escaped m_broken m_signBefore m_free m_waitsLong m_cutOff m_screen m_stream m_waits) sz)) (my_Qi (S := Unit) (dC, dI) [(cI, .int)] res.1 (fun _ => wM hM hR hT hZ cI m_allRows m_allColumns m_rows m_columns m_cells res.2.1 res.2.2.1 m_insert m_alarms m_rejects m_latest res.2.2.2.1 m_streamLong m_at m_place m_orders m_escaped m_broken m_signBefore m_free m_waitsLong m_cutOff res.2.2.2.2 m_stream m_waits) (va_A (wM hM hR hT hZ cI m_allRows m_allColumns m_rows m_columns m_cells m_cursor m_locked m_insert m_alarms m_rejects m_latest m_thrown m_streamLong m_at m_place m_orders m_escaped m_broken m_signBefore m_free m_waitsLong m_cutOff m_screen m_stream m_waits) sz)) 0 0 (va_A (wM hM hR hT hZ cI m_allRows m_allColumns m_rows m_columns m_cells m_cursor m_locked m_insert m_alarms m_rejects m_latest m_thrown m_streamLong m_at m_place m_orders m_escaped m_broken m_signBefore m_free m_waitsLong m_cutOff m_screen m_stream m_waits) sz) := by
  refine my_enter (cc := cX6_type) (maxL := 4) (ret := (some .int)) (Qc := my_Qi (S := Unit) (dC, dI) [(cI, .int)] res.1 (fun _ => wM hM hR hT hZ cI m_allRows m_allColumns m_rows m_columns m_cells res.2.1 res.2.2.1 m_insert m_alarms m_rejects m_latest res.2.2.2.1 m_streamLong m_at m_place m_orders m_escaped m_broken m_signBefore m_free m_waitsLong m_cutOff res.2.2.2.2 m_stream m_waits)) (by decide) rfl (Nat.le_of_ble_eq_true rfl) ?_
  intro p e s m below meth c A ls hx hb hr hml hts hown hlocks hnm hP hK hD hA hS hl
  have hown : s.vm.findClass RX6 = some m.cls := hown
  have hl : lv_has ls 4 [(0, .ref hM), (1, .int a1)] := hl
  have L114 : ∀ (v1 : Int32) (z_m_cursor : Int32) (z_m_locked : Bool) (z_m_thrown : Int32) (z_m_screen : Nat → Int32) (H : Heap) (locs : List Loc), f_X6_type_L114 m_cells m_insert v1 z_m_cursor z_m_locked z_m_thrown z_m_screen = some res → va_P (dC, dI) vwCl (wM hM hR hT hZ cI m_allRows m_allColumns m_rows m_columns m_cells z_m_cursor z_m_locked m_insert m_alarms m_rejects m_latest z_m_thrown m_streamLong m_at m_place m_orders m_escaped m_broken m_signBefore m_free m_waitsLong m_cutOff z_m_screen m_stream m_waits) H → va_D A (wM hM hR hT hZ cI m_allRows m_allColumns m_rows m_columns m_cells z_m_cursor z_m_locked m_insert m_alarms m_rejects m_latest z_m_thrown m_streamLong m_at m_place m_orders m_escaped m_broken m_signBefore m_free m_waitsLong m_cutOff z_m_screen m_stream m_waits) → va_S A s.heap H locs → ∀ (ls : Array Slot), lv_has ls 4 [(0, .ref hM), (1, .int v1)] → W p l e (headSpec wsX6_type ({ frames := 5, cells := 0, slots := 0, locals := 107 })).room s m ([.ref hM, .int a1] : List Value).toArray below meth c H locs 0 0 (MQ below (my_Qi (S := Unit) (dC, dI) [(cI, .int)] res.1 (fun _ => wM hM hR hT hZ cI m_allRows m_allColumns m_rows m_columns m_cells res.2.1 res.2.2.1 m_insert m_alarms m_rejects m_latest res.2.2.2.1 m_streamLong m_at m_place m_orders m_escaped m_broken m_signBefore m_free m_waitsLong m_cutOff res.2.2.2.2 m_stream m_waits) A) ([.ref hM, .int a1] : List Value).toArray s 0 0 A) (F0 m 114 ls []) := by
    intro v1 z_m_cursor z_m_locked z_m_thrown z_m_screen H locs hf  hP hD hS ls hl
    unfold f_X6_type_L114 at hf
    refine lv_aload_n hx hb dX6_type_114 rfl (lv_at hl 0 rfl) ?_
    refine va_get (D := (dC, dI)) (ci := 7) (v := .ref hR) (C := RX6) (T := TX6) (N := 25) hx hb hts uu_X6_type_X6 hown hK hP 0 rfl rfl 6 (by decide) (hts (.fieldLink RX6 7 "BlockScreenModel" "screen" "[I") (List.mem_of_getElem? (i := 5) rfl)) (fun _ h9 => h9) rfl dX6_type_115 ?_
    refine lv_aload_n hx hb dX6_type_118 rfl (lv_at hl 0 rfl) ?_
    refine va_get (D := (dC, dI)) (ci := 7) (v := .int z_m_cursor) (C := RX6) (T := TX6) (N := 25) hx hb hts uu_X6_type_X6 hown hK hP 0 rfl rfl 5 (by decide) (hts (.fieldLink RX6 49 "BlockScreenModel" "cursor" "I") (List.mem_of_getElem? (i := 3) rfl)) (fun _ h9 => h9) rfl dX6_type_119 ?_
    refine lv_iload_n hx hb dX6_type_122 rfl (lv_at hl 1 rfl) ?_
    rcases Classical.em (z_m_cursor < 0 ∨ 5676 ≤ z_m_cursor.toNatClampNeg) with c_1 | c_1
    · exact nn_abs ((if_pos c_1).symm.trans hf)
    have hf := (if_neg c_1).symm.trans hf
    refine va_iast hx hb hK hP hD hS 1 0 rfl rfl c_1 dX6_type_123 (fun H locs hP hD hS => ?_)
    have hP : va_P (dC, dI) vwCl (wM hM hR hT hZ cI m_allRows m_allColumns m_rows m_columns m_cells z_m_cursor z_m_locked m_insert m_alarms m_rejects m_latest z_m_thrown m_streamLong m_at m_place m_orders m_escaped m_broken m_signBefore m_free m_waitsLong m_cutOff (upd z_m_screen z_m_cursor.toNatClampNeg v1) m_stream m_waits) H := hP
    have hD : va_D A (wM hM hR hT hZ cI m_allRows m_allColumns m_rows m_columns m_cells z_m_cursor z_m_locked m_insert m_alarms m_rejects m_latest z_m_thrown m_streamLong m_at m_place m_orders m_escaped m_broken m_signBefore m_free m_waitsLong m_cutOff (upd z_m_screen z_m_cursor.toNatClampNeg v1) m_stream m_waits) := hD
    refine lv_aload_n hx hb dX6_type_124 rfl (lv_at hl 0 rfl) ?_
    refine lv_aload_n hx hb dX6_type_125 rfl (lv_at hl 0 rfl) ?_
    refine va_get (D := (dC, dI)) (ci := 7) (v := .int z_m_cursor) (C := RX6) (T := TX6) (N := 25) hx hb hts uu_X6_type_X6 hown hK hP 0 rfl rfl 5 (by decide) (hts (.fieldLink RX6 49 "BlockScreenModel" "cursor" "I") (List.mem_of_getElem? (i := 3) rfl)) (fun _ h9 => h9) rfl dX6_type_126 ?_
    obtain ⟨m_screen_2, hq_2, hf⟩ := ob_inv hf
    refine my_cVv (As := [.int z_m_cursor]) (rest := []) ⟨hx, hb, hml, hown, hts⟩ (c_X6_modify l dC dI cI hM hR hT hZ m_allRows m_allColumns m_rows m_columns m_cells z_m_cursor z_m_locked m_insert m_alarms m_rejects m_latest z_m_thrown m_streamLong m_at m_place m_orders m_escaped m_broken m_signBefore m_free m_waitsLong m_cutOff (upd z_m_screen z_m_cursor.toNatClampNeg v1) m_stream m_waits _ z_m_cursor m_screen_2 hq_2) (cwV 1 hts gX6_type_X6_modify rfl rfl rfl (by decide +kernel) ⟨Nat.le_of_ble_eq_true rfl, Nat.le_of_ble_eq_true rfl⟩) hK hP hD hS hA 0 7 rfl rfl rfl hl.1 rfl (Nat.le_of_ble_eq_true rfl) dX6_type_129 ⟨Nat.zero_le _, Nat.zero_le _⟩ (fun _ H locs hP hD hS => ?_)
    have hP : va_P (dC, dI) vwCl (wM hM hR hT hZ cI m_allRows m_allColumns m_rows m_columns m_cells z_m_cursor z_m_locked m_insert m_alarms m_rejects m_latest z_m_thrown m_streamLong m_at m_place m_orders m_escaped m_broken m_signBefore m_free m_waitsLong m_cutOff m_screen_2 m_stream m_waits) H := hP
    have hD : va_D A (wM hM hR hT hZ cI m_allRows m_allColumns m_rows m_columns m_cells z_m_cursor z_m_locked m_insert m_alarms m_rejects m_latest z_m_thrown m_streamLong m_at m_place m_orders m_escaped m_broken m_signBefore m_free m_waitsLong m_cutOff m_screen_2 m_stream m_waits) := hD
    refine lv_aload_n hx hb dX6_type_132 rfl (lv_at hl 0 rfl) ?_
    refine lv_aload_n hx hb dX6_type_133 rfl (lv_at hl 0 rfl) ?_
    refine lv_aload_n hx hb dX6_type_134 rfl (lv_at hl 0 rfl) ?_
    refine va_get (D := (dC, dI)) (ci := 7) (v := .int z_m_cursor) (C := RX6) (T := TX6) (N := 25) hx hb hts uu_X6_type_X6 hown hK hP 0 rfl rfl 5 (by decide) (hts (.fieldLink RX6 49 "BlockScreenModel" "cursor" "I") (List.mem_of_getElem? (i := 3) rfl)) (fun _ h9 => h9) rfl dX6_type_135 ?_
    refine lv_iconst (v := 1) hx hb dX6_type_138 (by decide) ?_
    refine lv_iadd hx hb dX6_type_139 ?_
    obtain ⟨r_3, hq_3, hf⟩ := ob_inv hf
    refine my_cVi (As := [.int (z_m_cursor + 1)]) (rest := [.ref hM]) ⟨hx, hb, hml, hown, hts⟩ (c_X6_round l dC dI cI hM hR hT hZ m_allRows m_allColumns m_rows m_columns m_cells z_m_cursor z_m_locked m_insert m_alarms m_rejects m_latest z_m_thrown m_streamLong m_at m_place m_orders m_escaped m_broken m_signBefore m_free m_waitsLong m_cutOff m_screen_2 m_stream m_waits _ (z_m_cursor + 1) r_3 hq_3) (cwV 1 hts gX6_type_X6_round rfl rfl rfl (by decide +kernel) ⟨Nat.le_of_ble_eq_true rfl, Nat.le_of_ble_eq_true rfl⟩) hK hP hD hS hA 0 7 rfl rfl rfl hl.1 rfl (Nat.le_of_ble_eq_true rfl) dX6_type_140 ⟨Nat.zero_le _, Nat.zero_le _⟩ (fun _ H locs hP hD hS => ?_)
    have hP : va_P (dC, dI) vwCl (wM hM hR hT hZ cI m_allRows m_allColumns m_rows m_columns m_cells z_m_cursor z_m_locked m_insert m_alarms m_rejects m_latest z_m_thrown m_streamLong m_at m_place m_orders m_escaped m_broken m_signBefore m_free m_waitsLong m_cutOff m_screen_2 m_stream m_waits) H := hP
    have hD : va_D A (wM hM hR hT hZ cI m_allRows m_allColumns m_rows m_columns m_cells z_m_cursor z_m_locked m_insert m_alarms m_rejects m_latest z_m_thrown m_streamLong m_at m_place m_orders m_escaped m_broken m_signBefore m_free m_waitsLong m_cutOff m_screen_2 m_stream m_waits) := hD
    refine va_put (D := (dC, dI)) (ci := 7) (v := .int r_3) (C := RX6) (T := TX6) (N := 25) hx hb hts uu_X6_type_X6 tyX6 tyX6_ok nmX6 hown hK hP hD hS 0 rfl rfl 5 (by decide) (hts (.fieldLink RX6 49 "BlockScreenModel" "cursor" "I") (List.mem_of_getElem? (i := 3) rfl)) (fun _ h9 => h9) rfl (tyX6_ok 5 (by decide)) rfl rfl (Nat.le_of_ble_eq_true rfl) dX6_type_143 (fun H locs hP hD hS => ?_)
    have hP : va_P (dC, dI) vwCl (wM hM hR hT hZ cI m_allRows m_allColumns m_rows m_columns m_cells r_3 z_m_locked m_insert m_alarms m_rejects m_latest z_m_thrown m_streamLong m_at m_place m_orders m_escaped m_broken m_signBefore m_free m_waitsLong m_cutOff m_screen_2 m_stream m_waits) H := hP
    have hD : va_D A (wM hM hR hT hZ cI m_allRows m_allColumns m_rows m_columns m_cells r_3 z_m_locked m_insert m_alarms m_rejects m_latest z_m_thrown m_streamLong m_at m_place m_orders m_escaped m_broken m_signBefore m_free m_waitsLong m_cutOff m_screen_2 m_stream m_waits) := hD
    refine lv_aload_n hx hb dX6_type_146 rfl (lv_at hl 0 rfl) ?_
    refine lv_aload_n hx hb dX6_type_147 rfl (lv_at hl 0 rfl) ?_
    refine va_get (D := (dC, dI)) (ci := 7) (v := .int r_3) (C := RX6) (T := TX6) (N := 25) hx hb hts uu_X6_type_X6 hown hK hP 0 rfl rfl 5 (by decide) (hts (.fieldLink RX6 49 "BlockScreenModel" "cursor" "I") (List.mem_of_getElem? (i := 3) rfl)) (fun _ h9 => h9) rfl dX6_type_148 ?_
    obtain ⟨r_4, hq_4, hf⟩ := ob_inv hf
    refine my_cVi (As := [.int r_3]) (rest := []) ⟨hx, hb, hml, hown, hts⟩ (c_X6_isAttribute l dC dI cI hM hR hT hZ m_allRows m_allColumns m_rows m_columns m_cells r_3 z_m_locked m_insert m_alarms m_rejects m_latest z_m_thrown m_streamLong m_at m_place m_orders m_escaped m_broken m_signBefore m_free m_waitsLong m_cutOff m_screen_2 m_stream m_waits _ r_3 r_4 hq_4) (cwV 1 hts gX6_type_X6_isAttribute rfl rfl rfl (by decide +kernel) ⟨Nat.le_of_ble_eq_true rfl, Nat.le_of_ble_eq_true rfl⟩) hK hP hD hS hA 0 7 rfl rfl rfl hl.1 rfl (Nat.le_of_ble_eq_true rfl) dX6_type_151 ⟨Nat.zero_le _, Nat.zero_le _⟩ (fun _ H locs hP hD hS => ?_)
    have hP : va_P (dC, dI) vwCl (wM hM hR hT hZ cI m_allRows m_allColumns m_rows m_columns m_cells r_3 z_m_locked m_insert m_alarms m_rejects m_latest z_m_thrown m_streamLong m_at m_place m_orders m_escaped m_broken m_signBefore m_free m_waitsLong m_cutOff m_screen_2 m_stream m_waits) H := hP
    have hD : va_D A (wM hM hR hT hZ cI m_allRows m_allColumns m_rows m_columns m_cells r_3 z_m_locked m_insert m_alarms m_rejects m_latest z_m_thrown m_streamLong m_at m_place m_orders m_escaped m_broken m_signBefore m_free m_waitsLong m_cutOff m_screen_2 m_stream m_waits) := hD
    refine lv_if_ne (tgt := 159) hx hb dX6_type_154 (by decide) (fun c_5 => ?_) (fun c_5 => ?_)
    · have hf := (if_neg c_5).symm.trans hf
      refine lv_aload_n hx hb dX6_type_159 rfl (lv_at hl 0 rfl) ?_
      refine va_get (D := (dC, dI)) (ci := 7) (v := .ref hR) (C := RX6) (T := TX6) (N := 25) hx hb hts uu_X6_type_X6 hown hK hP 0 rfl rfl 6 (by decide) (hts (.fieldLink RX6 7 "BlockScreenModel" "screen" "[I") (List.mem_of_getElem? (i := 5) rfl)) (fun _ h9 => h9) rfl dX6_type_160 ?_
      refine lv_aload_n hx hb dX6_type_163 rfl (lv_at hl 0 rfl) ?_
      refine va_get (D := (dC, dI)) (ci := 7) (v := .int r_3) (C := RX6) (T := TX6) (N := 25) hx hb hts uu_X6_type_X6 hown hK hP 0 rfl rfl 5 (by decide) (hts (.fieldLink RX6 49 "BlockScreenModel" "cursor" "I") (List.mem_of_getElem? (i := 3) rfl)) (fun _ h9 => h9) rfl dX6_type_164 ?_
      rcases Classical.em (r_3 < 0 ∨ 5676 ≤ r_3.toNatClampNeg) with c_6 | c_6
      · exact nn_abs ((if_pos c_6).symm.trans hf)
      have hf := (if_neg c_6).symm.trans hf
      refine va_iald hx hb hK hP 1 0 rfl rfl c_6 dX6_type_167 ?_
      refine lv_bipush (v := 32) hx hb dX6_type_168 (by decide) ?_
      refine lv_iand hx hb dX6_type_170 ?_
      refine lv_if_eq (tgt := 193) hx hb dX6_type_171 (by decide) (fun c_7 => ?_) (fun c_7 => ?_)
      · have hf := (if_pos c_7).symm.trans hf
        refine lv_iconst (v := 0) hx hb dX6_type_193 (by decide) ?_
        refine lv_istore_n (lv' := [(3, .int 0), (0, .ref hM), (1, .int v1)]) hx hb dX6_type_194 rfl hl (by decide) rfl (fun ls hl => ?_)
        refine lv_aload_n hx hb dX6_type_195 rfl (lv_at hl 1 rfl) ?_
        refine lv_iload_n hx hb dX6_type_196 rfl (lv_at hl 0 rfl) ?_
        refine lv_if_eq (tgt := 211) hx hb dX6_type_197 (by decide) (fun c_8 => ?_) (fun c_8 => ?_)
        · refine lv_aload_n hx hb dX6_type_211 rfl (lv_at hl 1 rfl) ?_
          refine lv_aload_n hx hb dX6_type_212 rfl (lv_at hl 1 rfl) ?_
          refine va_get (D := (dC, dI)) (ci := 7) (v := .int r_3) (C := RX6) (T := TX6) (N := 25) hx hb hts uu_X6_type_X6 hown hK hP 0 rfl rfl 5 (by decide) (hts (.fieldLink RX6 49 "BlockScreenModel" "cursor" "I") (List.mem_of_getElem? (i := 3) rfl)) (fun _ h9 => h9) rfl dX6_type_213 ?_
          refine lv_iconst (v := 1) hx hb dX6_type_216 (by decide) ?_
          refine lv_iadd hx hb dX6_type_217 ?_
          obtain ⟨r_9, hq_9, hf⟩ := ob_inv hf
          refine my_cVi (As := [.int (r_3 + 1)]) (rest := [.ref hM]) ⟨hx, hb, hml, hown, hts⟩ (c_X6_round l dC dI cI hM hR hT hZ m_allRows m_allColumns m_rows m_columns m_cells r_3 z_m_locked m_insert m_alarms m_rejects m_latest z_m_thrown m_streamLong m_at m_place m_orders m_escaped m_broken m_signBefore m_free m_waitsLong m_cutOff m_screen_2 m_stream m_waits _ (r_3 + 1) r_9 hq_9) (cwV 1 hts gX6_type_X6_round rfl rfl rfl (by decide +kernel) ⟨Nat.le_of_ble_eq_true rfl, Nat.le_of_ble_eq_true rfl⟩) hK hP hD hS hA 0 7 rfl rfl rfl hl.1 rfl (Nat.le_of_ble_eq_true rfl) dX6_type_218 ⟨Nat.zero_le _, Nat.zero_le _⟩ (fun _ H locs hP hD hS => ?_)
          have hP : va_P (dC, dI) vwCl (wM hM hR hT hZ cI m_allRows m_allColumns m_rows m_columns m_cells r_3 z_m_locked m_insert m_alarms m_rejects m_latest z_m_thrown m_streamLong m_at m_place m_orders m_escaped m_broken m_signBefore m_free m_waitsLong m_cutOff m_screen_2 m_stream m_waits) H := hP
          have hD : va_D A (wM hM hR hT hZ cI m_allRows m_allColumns m_rows m_columns m_cells r_3 z_m_locked m_insert m_alarms m_rejects m_latest z_m_thrown m_streamLong m_at m_place m_orders m_escaped m_broken m_signBefore m_free m_waitsLong m_cutOff m_screen_2 m_stream m_waits) := hD
          refine va_put (D := (dC, dI)) (ci := 7) (v := .int r_9) (C := RX6) (T := TX6) (N := 25) hx hb hts uu_X6_type_X6 tyX6 tyX6_ok nmX6 hown hK hP hD hS 0 rfl rfl 5 (by decide) (hts (.fieldLink RX6 49 "BlockScreenModel" "cursor" "I") (List.mem_of_getElem? (i := 3) rfl)) (fun _ h9 => h9) rfl (tyX6_ok 5 (by decide)) rfl rfl (Nat.le_of_ble_eq_true rfl) dX6_type_221 (fun H locs hP hD hS => ?_)
          have hP : va_P (dC, dI) vwCl (wM hM hR hT hZ cI m_allRows m_allColumns m_rows m_columns m_cells r_9 z_m_locked m_insert m_alarms m_rejects m_latest z_m_thrown m_streamLong m_at m_place m_orders m_escaped m_broken m_signBefore m_free m_waitsLong m_cutOff m_screen_2 m_stream m_waits) H := hP
          have hD : va_D A (wM hM hR hT hZ cI m_allRows m_allColumns m_rows m_columns m_cells r_9 z_m_locked m_insert m_alarms m_rejects m_latest z_m_thrown m_streamLong m_at m_place m_orders m_escaped m_broken m_signBefore m_free m_waitsLong m_cutOff m_screen_2 m_stream m_waits) := hD
          refine lv_iconst (v := 1) hx hb dX6_type_224 (by decide) ?_
          have hf := Option.some.inj hf
          subst hf
          exact my_reti () hx hb hr hlocks hK hP hD hS rfl dX6_type_225
        · exact absurd (by decide) c_8
      · have hf := (if_neg c_7).symm.trans hf
        refine lv_aload_n hx hb dX6_type_174 rfl (lv_at hl 0 rfl) ?_
        refine va_get (D := (dC, dI)) (ci := 7) (v := .ref hR) (C := RX6) (T := TX6) (N := 25) hx hb hts uu_X6_type_X6 hown hK hP 0 rfl rfl 6 (by decide) (hts (.fieldLink RX6 7 "BlockScreenModel" "screen" "[I") (List.mem_of_getElem? (i := 5) rfl)) (fun _ h9 => h9) rfl dX6_type_175 ?_
        refine lv_aload_n hx hb dX6_type_178 rfl (lv_at hl 0 rfl) ?_
        refine va_get (D := (dC, dI)) (ci := 7) (v := .int r_3) (C := RX6) (T := TX6) (N := 25) hx hb hts uu_X6_type_X6 hown hK hP 0 rfl rfl 5 (by decide) (hts (.fieldLink RX6 49 "BlockScreenModel" "cursor" "I") (List.mem_of_getElem? (i := 3) rfl)) (fun _ h9 => h9) rfl dX6_type_179 ?_
        refine va_iald hx hb hK hP 1 0 rfl rfl c_6 dX6_type_182 ?_
        refine lv_bipush (v := 16) hx hb dX6_type_183 (by decide) ?_
        refine lv_iand hx hb dX6_type_185 ?_
        refine lv_if_eq (tgt := 193) hx hb dX6_type_186 (by decide) (fun c_10 => ?_) (fun c_10 => ?_)
        · have hf := (if_pos c_10).symm.trans hf
          refine lv_iconst (v := 0) hx hb dX6_type_193 (by decide) ?_
          refine lv_istore_n (lv' := [(3, .int 0), (0, .ref hM), (1, .int v1)]) hx hb dX6_type_194 rfl hl (by decide) rfl (fun ls hl => ?_)
          refine lv_aload_n hx hb dX6_type_195 rfl (lv_at hl 1 rfl) ?_
          refine lv_iload_n hx hb dX6_type_196 rfl (lv_at hl 0 rfl) ?_
          refine lv_if_eq (tgt := 211) hx hb dX6_type_197 (by decide) (fun c_11 => ?_) (fun c_11 => ?_)
          · refine lv_aload_n hx hb dX6_type_211 rfl (lv_at hl 1 rfl) ?_
            refine lv_aload_n hx hb dX6_type_212 rfl (lv_at hl 1 rfl) ?_
            refine va_get (D := (dC, dI)) (ci := 7) (v := .int r_3) (C := RX6) (T := TX6) (N := 25) hx hb hts uu_X6_type_X6 hown hK hP 0 rfl rfl 5 (by decide) (hts (.fieldLink RX6 49 "BlockScreenModel" "cursor" "I") (List.mem_of_getElem? (i := 3) rfl)) (fun _ h9 => h9) rfl dX6_type_213 ?_
            refine lv_iconst (v := 1) hx hb dX6_type_216 (by decide) ?_
            refine lv_iadd hx hb dX6_type_217 ?_
            obtain ⟨r_12, hq_12, hf⟩ := ob_inv hf
            refine my_cVi (As := [.int (r_3 + 1)]) (rest := [.ref hM]) ⟨hx, hb, hml, hown, hts⟩ (c_X6_round l dC dI cI hM hR hT hZ m_allRows m_allColumns m_rows m_columns m_cells r_3 z_m_locked m_insert m_alarms m_rejects m_latest z_m_thrown m_streamLong m_at m_place m_orders m_escaped m_broken m_signBefore m_free m_waitsLong m_cutOff m_screen_2 m_stream m_waits _ (r_3 + 1) r_12 hq_12) (cwV 1 hts gX6_type_X6_round rfl rfl rfl (by decide +kernel) ⟨Nat.le_of_ble_eq_true rfl, Nat.le_of_ble_eq_true rfl⟩) hK hP hD hS hA 0 7 rfl rfl rfl hl.1 rfl (Nat.le_of_ble_eq_true rfl) dX6_type_218 ⟨Nat.zero_le _, Nat.zero_le _⟩ (fun _ H locs hP hD hS => ?_)
            have hP : va_P (dC, dI) vwCl (wM hM hR hT hZ cI m_allRows m_allColumns m_rows m_columns m_cells r_3 z_m_locked m_insert m_alarms m_rejects m_latest z_m_thrown m_streamLong m_at m_place m_orders m_escaped m_broken m_signBefore m_free m_waitsLong m_cutOff m_screen_2 m_stream m_waits) H := hP
            have hD : va_D A (wM hM hR hT hZ cI m_allRows m_allColumns m_rows m_columns m_cells r_3 z_m_locked m_insert m_alarms m_rejects m_latest z_m_thrown m_streamLong m_at m_place m_orders m_escaped m_broken m_signBefore m_free m_waitsLong m_cutOff m_screen_2 m_stream m_waits) := hD
            refine va_put (D := (dC, dI)) (ci := 7) (v := .int r_12) (C := RX6) (T := TX6) (N := 25) hx hb hts uu_X6_type_X6 tyX6 tyX6_ok nmX6 hown hK hP hD hS 0 rfl rfl 5 (by decide) (hts (.fieldLink RX6 49 "BlockScreenModel" "cursor" "I") (List.mem_of_getElem? (i := 3) rfl)) (fun _ h9 => h9) rfl (tyX6_ok 5 (by decide)) rfl rfl (Nat.le_of_ble_eq_true rfl) dX6_type_221 (fun H locs hP hD hS => ?_)
            have hP : va_P (dC, dI) vwCl (wM hM hR hT hZ cI m_allRows m_allColumns m_rows m_columns m_cells r_12 z_m_locked m_insert m_alarms m_rejects m_latest z_m_thrown m_streamLong m_at m_place m_orders m_escaped m_broken m_signBefore m_free m_waitsLong m_cutOff m_screen_2 m_stream m_waits) H := hP
            have hD : va_D A (wM hM hR hT hZ cI m_allRows m_allColumns m_rows m_columns m_cells r_12 z_m_locked m_insert m_alarms m_rejects m_latest z_m_thrown m_streamLong m_at m_place m_orders m_escaped m_broken m_signBefore m_free m_waitsLong m_cutOff m_screen_2 m_stream m_waits) := hD
            refine lv_iconst (v := 1) hx hb dX6_type_224 (by decide) ?_
            have hf := Option.some.inj hf
            subst hf
            exact my_reti () hx hb hr hlocks hK hP hD hS rfl dX6_type_225
          · exact absurd (by decide) c_11
        · have hf := (if_neg c_10).symm.trans hf
          refine lv_iconst (v := 1) hx hb dX6_type_189 (by decide) ?_
          refine lv_goto (tgt := 194) hx hb dX6_type_190 (by decide) ?_
          refine lv_istore_n (lv' := [(3, .int 1), (0, .ref hM), (1, .int v1)]) hx hb dX6_type_194 rfl hl (by decide) rfl (fun ls hl => ?_)
          refine lv_aload_n hx hb dX6_type_195 rfl (lv_at hl 1 rfl) ?_
          refine lv_iload_n hx hb dX6_type_196 rfl (lv_at hl 0 rfl) ?_
          refine lv_if_eq (tgt := 211) hx hb dX6_type_197 (by decide) (fun c_13 => ?_) (fun c_13 => ?_)
          · exact absurd c_13 (by decide)
          · refine lv_aload_n hx hb dX6_type_200 rfl (lv_at hl 1 rfl) ?_
            refine lv_aload_n hx hb dX6_type_201 rfl (lv_at hl 1 rfl) ?_
            refine va_get (D := (dC, dI)) (ci := 7) (v := .int r_3) (C := RX6) (T := TX6) (N := 25) hx hb hts uu_X6_type_X6 hown hK hP 0 rfl rfl 5 (by decide) (hts (.fieldLink RX6 49 "BlockScreenModel" "cursor" "I") (List.mem_of_getElem? (i := 3) rfl)) (fun _ h9 => h9) rfl dX6_type_202 ?_
            obtain ⟨r_14, hq_14, hf⟩ := ob_inv hf
            refine my_cVi (As := [.int r_3]) (rest := [.ref hM]) ⟨hx, hb, hml, hown, hts⟩ (c_X6_tab l dC dI cI hM hR hT hZ m_allRows m_allColumns m_rows m_columns m_cells r_3 z_m_locked m_insert m_alarms m_rejects m_latest z_m_thrown m_streamLong m_at m_place m_orders m_escaped m_broken m_signBefore m_free m_waitsLong m_cutOff m_screen_2 m_stream m_waits _ r_3 r_14 hq_14) (cwV 1 hts gX6_type_X6_tab rfl rfl rfl (by decide +kernel) ⟨Nat.le_of_ble_eq_true rfl, Nat.le_of_ble_eq_true rfl⟩) hK hP hD hS hA 0 7 rfl rfl rfl hl.1 rfl (Nat.le_of_ble_eq_true rfl) dX6_type_205 ⟨Nat.zero_le _, Nat.zero_le _⟩ (fun _ H locs hP hD hS => ?_)
            have hP : va_P (dC, dI) vwCl (wM hM hR hT hZ cI m_allRows m_allColumns m_rows m_columns m_cells r_3 z_m_locked m_insert m_alarms m_rejects m_latest z_m_thrown m_streamLong m_at m_place m_orders m_escaped m_broken m_signBefore m_free m_waitsLong m_cutOff m_screen_2 m_stream m_waits) H := hP
            have hD : va_D A (wM hM hR hT hZ cI m_allRows m_allColumns m_rows m_columns m_cells r_3 z_m_locked m_insert m_alarms m_rejects m_latest z_m_thrown m_streamLong m_at m_place m_orders m_escaped m_broken m_signBefore m_free m_waitsLong m_cutOff m_screen_2 m_stream m_waits) := hD
            refine lv_goto (tgt := 221) hx hb dX6_type_208 (by decide) ?_
            refine va_put (D := (dC, dI)) (ci := 7) (v := .int r_14) (C := RX6) (T := TX6) (N := 25) hx hb hts uu_X6_type_X6 tyX6 tyX6_ok nmX6 hown hK hP hD hS 0 rfl rfl 5 (by decide) (hts (.fieldLink RX6 49 "BlockScreenModel" "cursor" "I") (List.mem_of_getElem? (i := 3) rfl)) (fun _ h9 => h9) rfl (tyX6_ok 5 (by decide)) rfl rfl (Nat.le_of_ble_eq_true rfl) dX6_type_221 (fun H locs hP hD hS => ?_)
            have hP : va_P (dC, dI) vwCl (wM hM hR hT hZ cI m_allRows m_allColumns m_rows m_columns m_cells r_14 z_m_locked m_insert m_alarms m_rejects m_latest z_m_thrown m_streamLong m_at m_place m_orders m_escaped m_broken m_signBefore m_free m_waitsLong m_cutOff m_screen_2 m_stream m_waits) H := hP
            have hD : va_D A (wM hM hR hT hZ cI m_allRows m_allColumns m_rows m_columns m_cells r_14 z_m_locked m_insert m_alarms m_rejects m_latest z_m_thrown m_streamLong m_at m_place m_orders m_escaped m_broken m_signBefore m_free m_waitsLong m_cutOff m_screen_2 m_stream m_waits) := hD
            refine lv_iconst (v := 1) hx hb dX6_type_224 (by decide) ?_
            have hf := Option.some.inj hf
            subst hf
            exact my_reti () hx hb hr hlocks hK hP hD hS rfl dX6_type_225
    · have hf := (if_pos c_5).symm.trans hf
      refine lv_iconst (v := 1) hx hb dX6_type_157 (by decide) ?_
      have hf := Option.some.inj hf
      subst hf
      exact my_reti () hx hb hr hlocks hK hP hD hS rfl dX6_type_158
  have L60 : ∀ (v1 : Int32) (t0 : Bool) (z_m_cursor : Int32) (z_m_locked : Bool) (z_m_thrown : Int32) (z_m_screen : Nat → Int32) (H : Heap) (locs : List Loc), f_X6_type_L60 m_cells m_insert v1 t0 z_m_cursor z_m_locked z_m_thrown z_m_screen = some res → va_P (dC, dI) vwCl (wM hM hR hT hZ cI m_allRows m_allColumns m_rows m_columns m_cells z_m_cursor z_m_locked m_insert m_alarms m_rejects m_latest z_m_thrown m_streamLong m_at m_place m_orders m_escaped m_broken m_signBefore m_free m_waitsLong m_cutOff z_m_screen m_stream m_waits) H → va_D A (wM hM hR hT hZ cI m_allRows m_allColumns m_rows m_columns m_cells z_m_cursor z_m_locked m_insert m_alarms m_rejects m_latest z_m_thrown m_streamLong m_at m_place m_orders m_escaped m_broken m_signBefore m_free m_waitsLong m_cutOff z_m_screen m_stream m_waits) → va_S A s.heap H locs → ∀ (ls : Array Slot), lv_has ls 4 [(0, .ref hM), (1, .int v1)] → W p l e (headSpec wsX6_type ({ frames := 5, cells := 0, slots := 0, locals := 107 })).room s m ([.ref hM, .int a1] : List Value).toArray below meth c H locs 0 0 (MQ below (my_Qi (S := Unit) (dC, dI) [(cI, .int)] res.1 (fun _ => wM hM hR hT hZ cI m_allRows m_allColumns m_rows m_columns m_cells res.2.1 res.2.2.1 m_insert m_alarms m_rejects m_latest res.2.2.2.1 m_streamLong m_at m_place m_orders m_escaped m_broken m_signBefore m_free m_waitsLong m_cutOff res.2.2.2.2 m_stream m_waits) A) ([.ref hM, .int a1] : List Value).toArray s 0 0 A) (F0 m 60 ls [.int (b2i t0)]) := by
    intro v1 t0 z_m_cursor z_m_locked z_m_thrown z_m_screen H locs hf  hP hD hS ls hl
    unfold f_X6_type_L60 at hf
    refine lv_istore_n (lv' := [(2, .int (b2i t0)), (0, .ref hM), (1, .int v1)]) hx hb dX6_type_60 rfl hl (by decide) rfl (fun ls hl => ?_)
    refine lv_aload_n hx hb dX6_type_61 rfl (lv_at hl 1 rfl) ?_
    refine lv_aload_n hx hb dX6_type_62 rfl (lv_at hl 1 rfl) ?_
    refine va_get (D := (dC, dI)) (ci := 7) (v := .int z_m_cursor) (C := RX6) (T := TX6) (N := 25) hx hb hts uu_X6_type_X6 hown hK hP 0 rfl rfl 5 (by decide) (hts (.fieldLink RX6 49 "BlockScreenModel" "cursor" "I") (List.mem_of_getElem? (i := 3) rfl)) (fun _ h9 => h9) rfl dX6_type_63 ?_
    obtain ⟨r_15, hq_15, hf⟩ := ob_inv hf
    refine my_cVi (As := [.int z_m_cursor]) (rest := []) ⟨hx, hb, hml, hown, hts⟩ (c_X6_mayBeTyped l dC dI cI hM hR hT hZ m_allRows m_allColumns m_rows m_columns m_cells z_m_cursor z_m_locked m_insert m_alarms m_rejects m_latest z_m_thrown m_streamLong m_at m_place m_orders m_escaped m_broken m_signBefore m_free m_waitsLong m_cutOff z_m_screen m_stream m_waits _ z_m_cursor r_15 hq_15) (cwV 1 hts gX6_type_X6_mayBeTyped rfl rfl rfl (by decide +kernel) ⟨Nat.le_of_ble_eq_true rfl, Nat.le_of_ble_eq_true rfl⟩) hK hP hD hS hA 0 7 rfl rfl rfl hl.1 rfl (Nat.le_of_ble_eq_true rfl) dX6_type_66 ⟨Nat.zero_le _, Nat.zero_le _⟩ (fun _ H locs hP hD hS => ?_)
    have hP : va_P (dC, dI) vwCl (wM hM hR hT hZ cI m_allRows m_allColumns m_rows m_columns m_cells z_m_cursor z_m_locked m_insert m_alarms m_rejects m_latest z_m_thrown m_streamLong m_at m_place m_orders m_escaped m_broken m_signBefore m_free m_waitsLong m_cutOff z_m_screen m_stream m_waits) H := hP
    have hD : va_D A (wM hM hR hT hZ cI m_allRows m_allColumns m_rows m_columns m_cells z_m_cursor z_m_locked m_insert m_alarms m_rejects m_latest z_m_thrown m_streamLong m_at m_place m_orders m_escaped m_broken m_signBefore m_free m_waitsLong m_cutOff z_m_screen m_stream m_waits) := hD
    refine lv_if_eq (tgt := 90) hx hb dX6_type_69 (by decide) (fun c_16 => ?_) (fun c_16 => ?_)
    · have hf := (if_pos c_16).symm.trans hf
      refine lv_aload_n hx hb dX6_type_90 rfl (lv_at hl 1 rfl) ?_
      obtain ⟨⟨r_17, m_locked_17⟩, hq_17, hf⟩ := th_inv hf
      refine my_cVi (As := []) (rest := []) ⟨hx, hb, hml, hown, hts⟩ (c_X6_refuse l dC dI cI hM hR hT hZ m_allRows m_allColumns m_rows m_columns m_cells z_m_cursor z_m_locked m_insert m_alarms m_rejects m_latest z_m_thrown m_streamLong m_at m_place m_orders m_escaped m_broken m_signBefore m_free m_waitsLong m_cutOff z_m_screen m_stream m_waits _  (r_17, m_locked_17) hq_17) (cwV 0 hts gX6_type_X6_refuse rfl rfl rfl (by decide +kernel) ⟨Nat.le_of_ble_eq_true rfl, Nat.le_of_ble_eq_true rfl⟩) hK hP hD hS hA 0 7 rfl rfl rfl hl.1 rfl (Nat.le_of_ble_eq_true rfl) dX6_type_91 ⟨Nat.zero_le _, Nat.zero_le _⟩ (fun _ H locs hP hD hS => ?_)
      have hP : va_P (dC, dI) vwCl (wM hM hR hT hZ cI m_allRows m_allColumns m_rows m_columns m_cells z_m_cursor m_locked_17 m_insert m_alarms m_rejects m_latest z_m_thrown m_streamLong m_at m_place m_orders m_escaped m_broken m_signBefore m_free m_waitsLong m_cutOff z_m_screen m_stream m_waits) H := hP
      have hD : va_D A (wM hM hR hT hZ cI m_allRows m_allColumns m_rows m_columns m_cells z_m_cursor m_locked_17 m_insert m_alarms m_rejects m_latest z_m_thrown m_streamLong m_at m_place m_orders m_escaped m_broken m_signBefore m_free m_waitsLong m_cutOff z_m_screen m_stream m_waits) := hD
      have hf := Option.some.inj hf
      subst hf
      exact my_reti () hx hb hr hlocks hK hP hD hS rfl dX6_type_94
    · have hf := (if_neg c_16).symm.trans hf
      refine lv_aload_n hx hb dX6_type_72 rfl (lv_at hl 1 rfl) ?_
      refine lv_aload_n hx hb dX6_type_73 rfl (lv_at hl 1 rfl) ?_
      refine va_get (D := (dC, dI)) (ci := 7) (v := .int z_m_cursor) (C := RX6) (T := TX6) (N := 25) hx hb hts uu_X6_type_X6 hown hK hP 0 rfl rfl 5 (by decide) (hts (.fieldLink RX6 49 "BlockScreenModel" "cursor" "I") (List.mem_of_getElem? (i := 3) rfl)) (fun _ h9 => h9) rfl dX6_type_74 ?_
      obtain ⟨r_18, hq_18, hf⟩ := ob_inv hf
      refine my_cVi (As := [.int z_m_cursor]) (rest := []) ⟨hx, hb, hml, hown, hts⟩ (c_X6_attributeOf l dC dI cI hM hR hT hZ m_allRows m_allColumns m_rows m_columns m_cells z_m_cursor z_m_locked m_insert m_alarms m_rejects m_latest z_m_thrown m_streamLong m_at m_place m_orders m_escaped m_broken m_signBefore m_free m_waitsLong m_cutOff z_m_screen m_stream m_waits _ z_m_cursor r_18 hq_18) (cwV 1 hts gX6_type_X6_attributeOf rfl rfl rfl (by decide +kernel) ⟨Nat.le_of_ble_eq_true rfl, Nat.le_of_ble_eq_true rfl⟩) hK hP hD hS hA 0 7 rfl rfl rfl hl.1 rfl (Nat.le_of_ble_eq_true rfl) dX6_type_77 ⟨Nat.zero_le _, Nat.zero_le _⟩ (fun _ H locs hP hD hS => ?_)
      have hP : va_P (dC, dI) vwCl (wM hM hR hT hZ cI m_allRows m_allColumns m_rows m_columns m_cells z_m_cursor z_m_locked m_insert m_alarms m_rejects m_latest z_m_thrown m_streamLong m_at m_place m_orders m_escaped m_broken m_signBefore m_free m_waitsLong m_cutOff z_m_screen m_stream m_waits) H := hP
      have hD : va_D A (wM hM hR hT hZ cI m_allRows m_allColumns m_rows m_columns m_cells z_m_cursor z_m_locked m_insert m_alarms m_rejects m_latest z_m_thrown m_streamLong m_at m_place m_orders m_escaped m_broken m_signBefore m_free m_waitsLong m_cutOff z_m_screen m_stream m_waits) := hD
      refine lv_bipush (v := 16) hx hb dX6_type_80 (by decide) ?_
      refine lv_iand hx hb dX6_type_82 ?_
      refine lv_if_eq (tgt := 95) hx hb dX6_type_83 (by decide) (fun c_19 => ?_) (fun c_19 => ?_)
      · have hf := (if_pos c_19).symm.trans hf
        refine lv_aload_n hx hb dX6_type_95 rfl (lv_at hl 1 rfl) ?_
        refine va_get (D := (dC, dI)) (ci := 7) (v := .int (b2i m_insert)) (C := RX6) (T := TX6) (N := 25) hx hb hts uu_X6_type_X6 hown hK hP 0 rfl rfl 8 (by decide) (hts (.fieldLink RX6 204 "BlockScreenModel" "insert" "Z") (List.mem_of_getElem? (i := 4) rfl)) (fun _ h9 => h9) rfl dX6_type_96 ?_
        refine lv_if_eq (tgt := 114) hx hb dX6_type_99 (by decide) (fun c_20 => ?_) (fun c_20 => ?_)
        · have hf := (if_pos c_20).symm.trans hf
          exact L114  v1 z_m_cursor z_m_locked z_m_thrown z_m_screen _ _ hf  hP hD hS ls (lv_sub hl [1, 2] rfl)
        · have hf := (if_neg c_20).symm.trans hf
          refine lv_aload_n hx hb dX6_type_102 rfl (lv_at hl 1 rfl) ?_
          obtain ⟨⟨r_21, m_screen_21⟩, hq_21, hf⟩ := ob_inv hf
          refine my_cVi (As := []) (rest := []) ⟨hx, hb, hml, hown, hts⟩ (c_X6_makeRoom l dC dI cI hM hR hT hZ m_allRows m_allColumns m_rows m_columns m_cells z_m_cursor z_m_locked m_insert m_alarms m_rejects m_latest z_m_thrown m_streamLong m_at m_place m_orders m_escaped m_broken m_signBefore m_free m_waitsLong m_cutOff z_m_screen m_stream m_waits _  (r_21, m_screen_21) hq_21) (cwV 0 hts gX6_type_X6_makeRoom rfl rfl rfl (by decide +kernel) ⟨Nat.le_of_ble_eq_true rfl, Nat.le_of_ble_eq_true rfl⟩) hK hP hD hS hA 0 7 rfl rfl rfl hl.1 rfl (Nat.le_of_ble_eq_true rfl) dX6_type_103 ⟨Nat.zero_le _, Nat.zero_le _⟩ (fun _ H locs hP hD hS => ?_)
          have hP : va_P (dC, dI) vwCl (wM hM hR hT hZ cI m_allRows m_allColumns m_rows m_columns m_cells z_m_cursor z_m_locked m_insert m_alarms m_rejects m_latest z_m_thrown m_streamLong m_at m_place m_orders m_escaped m_broken m_signBefore m_free m_waitsLong m_cutOff m_screen_21 m_stream m_waits) H := hP
          have hD : va_D A (wM hM hR hT hZ cI m_allRows m_allColumns m_rows m_columns m_cells z_m_cursor z_m_locked m_insert m_alarms m_rejects m_latest z_m_thrown m_streamLong m_at m_place m_orders m_escaped m_broken m_signBefore m_free m_waitsLong m_cutOff m_screen_21 m_stream m_waits) := hD
          refine lv_if_ne (tgt := 114) hx hb dX6_type_106 (by decide) (fun c_22 => ?_) (fun c_22 => ?_)
          · have hf := (if_neg c_22).symm.trans hf
            exact L114  v1 z_m_cursor z_m_locked z_m_thrown m_screen_21 _ _ hf  hP hD hS ls (lv_sub hl [1, 2] rfl)
          · have hf := (if_pos c_22).symm.trans hf
            refine lv_aload_n hx hb dX6_type_109 rfl (lv_at hl 1 rfl) ?_
            obtain ⟨⟨r_23, m_locked_23⟩, hq_23, hf⟩ := th_inv hf
            refine my_cVi (As := []) (rest := []) ⟨hx, hb, hml, hown, hts⟩ (c_X6_refuse l dC dI cI hM hR hT hZ m_allRows m_allColumns m_rows m_columns m_cells z_m_cursor z_m_locked m_insert m_alarms m_rejects m_latest z_m_thrown m_streamLong m_at m_place m_orders m_escaped m_broken m_signBefore m_free m_waitsLong m_cutOff m_screen_21 m_stream m_waits _  (r_23, m_locked_23) hq_23) (cwV 0 hts gX6_type_X6_refuse rfl rfl rfl (by decide +kernel) ⟨Nat.le_of_ble_eq_true rfl, Nat.le_of_ble_eq_true rfl⟩) hK hP hD hS hA 0 7 rfl rfl rfl hl.1 rfl (Nat.le_of_ble_eq_true rfl) dX6_type_110 ⟨Nat.zero_le _, Nat.zero_le _⟩ (fun _ H locs hP hD hS => ?_)
            have hP : va_P (dC, dI) vwCl (wM hM hR hT hZ cI m_allRows m_allColumns m_rows m_columns m_cells z_m_cursor m_locked_23 m_insert m_alarms m_rejects m_latest z_m_thrown m_streamLong m_at m_place m_orders m_escaped m_broken m_signBefore m_free m_waitsLong m_cutOff m_screen_21 m_stream m_waits) H := hP
            have hD : va_D A (wM hM hR hT hZ cI m_allRows m_allColumns m_rows m_columns m_cells z_m_cursor m_locked_23 m_insert m_alarms m_rejects m_latest z_m_thrown m_streamLong m_at m_place m_orders m_escaped m_broken m_signBefore m_free m_waitsLong m_cutOff m_screen_21 m_stream m_waits) := hD
            have hf := Option.some.inj hf
            subst hf
            exact my_reti () hx hb hr hlocks hK hP hD hS rfl dX6_type_113
      · have hf := (if_neg c_19).symm.trans hf
        refine lv_iload_n hx hb dX6_type_86 rfl (lv_at hl 0 rfl) ?_
        refine lv_if_ne (tgt := 95) hx hb dX6_type_87 (by decide) (fun c_24 => ?_) (fun c_24 => ?_)
        · have hf := (if_neg c_24).symm.trans hf
          refine lv_aload_n hx hb dX6_type_95 rfl (lv_at hl 1 rfl) ?_
          refine va_get (D := (dC, dI)) (ci := 7) (v := .int (b2i m_insert)) (C := RX6) (T := TX6) (N := 25) hx hb hts uu_X6_type_X6 hown hK hP 0 rfl rfl 8 (by decide) (hts (.fieldLink RX6 204 "BlockScreenModel" "insert" "Z") (List.mem_of_getElem? (i := 4) rfl)) (fun _ h9 => h9) rfl dX6_type_96 ?_
          refine lv_if_eq (tgt := 114) hx hb dX6_type_99 (by decide) (fun c_25 => ?_) (fun c_25 => ?_)
          · have hf := (if_pos c_25).symm.trans hf
            exact L114  v1 z_m_cursor z_m_locked z_m_thrown z_m_screen _ _ hf  hP hD hS ls (lv_sub hl [1, 2] rfl)
          · have hf := (if_neg c_25).symm.trans hf
            refine lv_aload_n hx hb dX6_type_102 rfl (lv_at hl 1 rfl) ?_
            obtain ⟨⟨r_26, m_screen_26⟩, hq_26, hf⟩ := ob_inv hf
            refine my_cVi (As := []) (rest := []) ⟨hx, hb, hml, hown, hts⟩ (c_X6_makeRoom l dC dI cI hM hR hT hZ m_allRows m_allColumns m_rows m_columns m_cells z_m_cursor z_m_locked m_insert m_alarms m_rejects m_latest z_m_thrown m_streamLong m_at m_place m_orders m_escaped m_broken m_signBefore m_free m_waitsLong m_cutOff z_m_screen m_stream m_waits _  (r_26, m_screen_26) hq_26) (cwV 0 hts gX6_type_X6_makeRoom rfl rfl rfl (by decide +kernel) ⟨Nat.le_of_ble_eq_true rfl, Nat.le_of_ble_eq_true rfl⟩) hK hP hD hS hA 0 7 rfl rfl rfl hl.1 rfl (Nat.le_of_ble_eq_true rfl) dX6_type_103 ⟨Nat.zero_le _, Nat.zero_le _⟩ (fun _ H locs hP hD hS => ?_)
            have hP : va_P (dC, dI) vwCl (wM hM hR hT hZ cI m_allRows m_allColumns m_rows m_columns m_cells z_m_cursor z_m_locked m_insert m_alarms m_rejects m_latest z_m_thrown m_streamLong m_at m_place m_orders m_escaped m_broken m_signBefore m_free m_waitsLong m_cutOff m_screen_26 m_stream m_waits) H := hP
            have hD : va_D A (wM hM hR hT hZ cI m_allRows m_allColumns m_rows m_columns m_cells z_m_cursor z_m_locked m_insert m_alarms m_rejects m_latest z_m_thrown m_streamLong m_at m_place m_orders m_escaped m_broken m_signBefore m_free m_waitsLong m_cutOff m_screen_26 m_stream m_waits) := hD
            refine lv_if_ne (tgt := 114) hx hb dX6_type_106 (by decide) (fun c_27 => ?_) (fun c_27 => ?_)
            · have hf := (if_neg c_27).symm.trans hf
              exact L114  v1 z_m_cursor z_m_locked z_m_thrown m_screen_26 _ _ hf  hP hD hS ls (lv_sub hl [1, 2] rfl)
            · have hf := (if_pos c_27).symm.trans hf
              refine lv_aload_n hx hb dX6_type_109 rfl (lv_at hl 1 rfl) ?_
              obtain ⟨⟨r_28, m_locked_28⟩, hq_28, hf⟩ := th_inv hf
              refine my_cVi (As := []) (rest := []) ⟨hx, hb, hml, hown, hts⟩ (c_X6_refuse l dC dI cI hM hR hT hZ m_allRows m_allColumns m_rows m_columns m_cells z_m_cursor z_m_locked m_insert m_alarms m_rejects m_latest z_m_thrown m_streamLong m_at m_place m_orders m_escaped m_broken m_signBefore m_free m_waitsLong m_cutOff m_screen_26 m_stream m_waits _  (r_28, m_locked_28) hq_28) (cwV 0 hts gX6_type_X6_refuse rfl rfl rfl (by decide +kernel) ⟨Nat.le_of_ble_eq_true rfl, Nat.le_of_ble_eq_true rfl⟩) hK hP hD hS hA 0 7 rfl rfl rfl hl.1 rfl (Nat.le_of_ble_eq_true rfl) dX6_type_110 ⟨Nat.zero_le _, Nat.zero_le _⟩ (fun _ H locs hP hD hS => ?_)
              have hP : va_P (dC, dI) vwCl (wM hM hR hT hZ cI m_allRows m_allColumns m_rows m_columns m_cells z_m_cursor m_locked_28 m_insert m_alarms m_rejects m_latest z_m_thrown m_streamLong m_at m_place m_orders m_escaped m_broken m_signBefore m_free m_waitsLong m_cutOff m_screen_26 m_stream m_waits) H := hP
              have hD : va_D A (wM hM hR hT hZ cI m_allRows m_allColumns m_rows m_columns m_cells z_m_cursor m_locked_28 m_insert m_alarms m_rejects m_latest z_m_thrown m_streamLong m_at m_place m_orders m_escaped m_broken m_signBefore m_free m_waitsLong m_cutOff m_screen_26 m_stream m_waits) := hD
              have hf := Option.some.inj hf
              subst hf
              exact my_reti () hx hb hr hlocks hK hP hD hS rfl dX6_type_113
        · have hf := (if_pos c_24).symm.trans hf
          refine lv_aload_n hx hb dX6_type_90 rfl (lv_at hl 1 rfl) ?_
          obtain ⟨⟨r_29, m_locked_29⟩, hq_29, hf⟩ := th_inv hf
          refine my_cVi (As := []) (rest := []) ⟨hx, hb, hml, hown, hts⟩ (c_X6_refuse l dC dI cI hM hR hT hZ m_allRows m_allColumns m_rows m_columns m_cells z_m_cursor z_m_locked m_insert m_alarms m_rejects m_latest z_m_thrown m_streamLong m_at m_place m_orders m_escaped m_broken m_signBefore m_free m_waitsLong m_cutOff z_m_screen m_stream m_waits _  (r_29, m_locked_29) hq_29) (cwV 0 hts gX6_type_X6_refuse rfl rfl rfl (by decide +kernel) ⟨Nat.le_of_ble_eq_true rfl, Nat.le_of_ble_eq_true rfl⟩) hK hP hD hS hA 0 7 rfl rfl rfl hl.1 rfl (Nat.le_of_ble_eq_true rfl) dX6_type_91 ⟨Nat.zero_le _, Nat.zero_le _⟩ (fun _ H locs hP hD hS => ?_)
          have hP : va_P (dC, dI) vwCl (wM hM hR hT hZ cI m_allRows m_allColumns m_rows m_columns m_cells z_m_cursor m_locked_29 m_insert m_alarms m_rejects m_latest z_m_thrown m_streamLong m_at m_place m_orders m_escaped m_broken m_signBefore m_free m_waitsLong m_cutOff z_m_screen m_stream m_waits) H := hP
          have hD : va_D A (wM hM hR hT hZ cI m_allRows m_allColumns m_rows m_columns m_cells z_m_cursor m_locked_29 m_insert m_alarms m_rejects m_latest z_m_thrown m_streamLong m_at m_place m_orders m_escaped m_broken m_signBefore m_free m_waitsLong m_cutOff z_m_screen m_stream m_waits) := hD
          have hf := Option.some.inj hf
          subst hf
          exact my_reti () hx hb hr hlocks hK hP hD hS rfl dX6_type_94
  unfold f_X6_type at hf
  refine lv_aload_n hx hb dX6_type_0 rfl (lv_at hl 0 rfl) ?_
  refine lv_iconst (v := 0) hx hb dX6_type_1 (by decide) ?_
  refine va_put (D := (dC, dI)) (ci := 7) (v := .int 0) (C := RX6) (T := TX6) (N := 25) hx hb hts uu_X6_type_X6 tyX6 tyX6_ok nmX6 hown hK hP hD hS 0 rfl rfl 12 (by decide) (hts (.fieldLink RX6 37 "BlockScreenModel" "thrown" "I") (List.mem_of_getElem? (i := 1) rfl)) (fun _ h9 => h9) rfl (tyX6_ok 12 (by decide)) rfl rfl (Nat.le_of_ble_eq_true rfl) dX6_type_2 (fun H locs hP hD hS => ?_)
  have hP : va_P (dC, dI) vwCl (wM hM hR hT hZ cI m_allRows m_allColumns m_rows m_columns m_cells m_cursor m_locked m_insert m_alarms m_rejects m_latest 0 m_streamLong m_at m_place m_orders m_escaped m_broken m_signBefore m_free m_waitsLong m_cutOff m_screen m_stream m_waits) H := hP
  have hD : va_D A (wM hM hR hT hZ cI m_allRows m_allColumns m_rows m_columns m_cells m_cursor m_locked m_insert m_alarms m_rejects m_latest 0 m_streamLong m_at m_place m_orders m_escaped m_broken m_signBefore m_free m_waitsLong m_cutOff m_screen m_stream m_waits) := hD
  refine lv_iload_n hx hb dX6_type_5 rfl (lv_at hl 1 rfl) ?_
  refine lv_bipush (v := 64) hx hb dX6_type_6 (by decide) ?_
  refine lv_icmp_lt (tgt := 18) hx hb dX6_type_8 (by decide) (fun c_30 => ?_) (fun c_30 => ?_)
  · have hf := (if_pos c_30).symm.trans hf
    refine lv_iconst (v := (-1)) hx hb dX6_type_18 (by decide) ?_
    have hf := Option.some.inj hf
    subst hf
    exact my_reti () hx hb hr hlocks hK hP hD hS rfl dX6_type_19
  · have hf := (if_neg c_30).symm.trans hf
    refine lv_iload_n hx hb dX6_type_11 rfl (lv_at hl 1 rfl) ?_
    refine lv_sipush (v := 254) hx hb dX6_type_12 (by decide) ?_
    refine lv_icmp_le (tgt := 20) hx hb dX6_type_15 (by decide) (fun c_31 => ?_) (fun c_31 => ?_)
    · have hf := (if_pos c_31).symm.trans hf
      refine lv_aload_n hx hb dX6_type_20 rfl (lv_at hl 0 rfl) ?_
      refine va_get (D := (dC, dI)) (ci := 7) (v := .int (b2i m_locked)) (C := RX6) (T := TX6) (N := 25) hx hb hts uu_X6_type_X6 hown hK hP 0 rfl rfl 7 (by decide) (hts (.fieldLink RX6 13 "BlockScreenModel" "locked" "Z") (List.mem_of_getElem? (i := 2) rfl)) (fun _ h9 => h9) rfl dX6_type_21 ?_
      refine lv_if_eq (tgt := 29) hx hb dX6_type_24 (by decide) (fun c_32 => ?_) (fun c_32 => ?_)
      · have hf := (if_pos c_32).symm.trans hf
        refine lv_iload_n hx hb dX6_type_29 rfl (lv_at hl 1 rfl) ?_
        refine lv_sipush (v := 240) hx hb dX6_type_30 (by decide) ?_
        refine lv_icmp_lt (tgt := 43) hx hb dX6_type_33 (by decide) (fun c_33 => ?_) (fun c_33 => ?_)
        · have hf := (if_pos c_33).symm.trans hf
          refine lv_iload_n hx hb dX6_type_43 rfl (lv_at hl 1 rfl) ?_
          refine lv_bipush (v := 75) hx hb dX6_type_44 (by decide) ?_
          refine lv_icmp_eq (tgt := 55) hx hb dX6_type_46 (by decide) (fun c_34 => ?_) (fun c_34 => ?_)
          · have hf := (if_pos c_34).symm.trans hf
            refine lv_iconst (v := 1) hx hb dX6_type_55 (by decide) ?_
            refine lv_goto (tgt := 60) hx hb dX6_type_56 (by decide) ?_
            exact L60  a1 true m_cursor m_locked 0 m_screen _ _ hf  hP hD hS ls (lv_sub hl [0, 1] rfl)
          · have hf := (if_neg c_34).symm.trans hf
            refine lv_iload_n hx hb dX6_type_49 rfl (lv_at hl 1 rfl) ?_
            refine lv_bipush (v := 96) hx hb dX6_type_50 (by decide) ?_
            refine lv_icmp_ne (tgt := 59) hx hb dX6_type_52 (by decide) (fun c_35 => ?_) (fun c_35 => ?_)
            · have hf := (if_neg c_35).symm.trans hf
              refine lv_iconst (v := 0) hx hb dX6_type_59 (by decide) ?_
              exact L60  a1 false m_cursor m_locked 0 m_screen _ _ hf  hP hD hS ls (lv_sub hl [0, 1] rfl)
            · have hf := (if_pos c_35).symm.trans hf
              refine lv_iconst (v := 1) hx hb dX6_type_55 (by decide) ?_
              refine lv_goto (tgt := 60) hx hb dX6_type_56 (by decide) ?_
              exact L60  a1 true m_cursor m_locked 0 m_screen _ _ hf  hP hD hS ls (lv_sub hl [0, 1] rfl)
        · have hf := (if_neg c_33).symm.trans hf
          refine lv_iload_n hx hb dX6_type_36 rfl (lv_at hl 1 rfl) ?_
          refine lv_sipush (v := 249) hx hb dX6_type_37 (by decide) ?_
          refine lv_icmp_le (tgt := 55) hx hb dX6_type_40 (by decide) (fun c_36 => ?_) (fun c_36 => ?_)
          · have hf := (if_pos c_36).symm.trans hf
            refine lv_iconst (v := 1) hx hb dX6_type_55 (by decide) ?_
            refine lv_goto (tgt := 60) hx hb dX6_type_56 (by decide) ?_
            exact L60  a1 true m_cursor m_locked 0 m_screen _ _ hf  hP hD hS ls (lv_sub hl [0, 1] rfl)
          · have hf := (if_neg c_36).symm.trans hf
            refine lv_iload_n hx hb dX6_type_43 rfl (lv_at hl 1 rfl) ?_
            refine lv_bipush (v := 75) hx hb dX6_type_44 (by decide) ?_
            refine lv_icmp_eq (tgt := 55) hx hb dX6_type_46 (by decide) (fun c_37 => ?_) (fun c_37 => ?_)
            · have hf := (if_pos c_37).symm.trans hf
              refine lv_iconst (v := 1) hx hb dX6_type_55 (by decide) ?_
              refine lv_goto (tgt := 60) hx hb dX6_type_56 (by decide) ?_
              exact L60  a1 true m_cursor m_locked 0 m_screen _ _ hf  hP hD hS ls (lv_sub hl [0, 1] rfl)
            · have hf := (if_neg c_37).symm.trans hf
              refine lv_iload_n hx hb dX6_type_49 rfl (lv_at hl 1 rfl) ?_
              refine lv_bipush (v := 96) hx hb dX6_type_50 (by decide) ?_
              refine lv_icmp_ne (tgt := 59) hx hb dX6_type_52 (by decide) (fun c_38 => ?_) (fun c_38 => ?_)
              · have hf := (if_neg c_38).symm.trans hf
                refine lv_iconst (v := 0) hx hb dX6_type_59 (by decide) ?_
                exact L60  a1 false m_cursor m_locked 0 m_screen _ _ hf  hP hD hS ls (lv_sub hl [0, 1] rfl)
              · have hf := (if_pos c_38).symm.trans hf
                refine lv_iconst (v := 1) hx hb dX6_type_55 (by decide) ?_
                refine lv_goto (tgt := 60) hx hb dX6_type_56 (by decide) ?_
                exact L60  a1 true m_cursor m_locked 0 m_screen _ _ hf  hP hD hS ls (lv_sub hl [0, 1] rfl)
      · have hf := (if_neg c_32).symm.trans hf
        refine lv_iconst (v := 0) hx hb dX6_type_27 (by decide) ?_
        have hf := Option.some.inj hf
        subst hf
        exact my_reti () hx hb hr hlocks hK hP hD hS rfl dX6_type_28
    · have hf := (if_neg c_31).symm.trans hf
      refine lv_iconst (v := (-1)) hx hb dX6_type_18 (by decide) ?_
      have hf := Option.some.inj hf
      subst hf
      exact my_reti () hx hb hr hlocks hK hP hD hS rfl dX6_type_19

theorem uu_X6_isCell_X6 : ∀ w ∈ u_ws RX6 TX6 25, w ∈ wsX6_isCell := fun _ h => List.mem_cons_of_mem _ (List.mem_append_right _ h)
def f_X6_isCell (m_rows : Int32) (m_columns : Int32) (a1 : Int32) (a2 : Int32) : Bool :=
    if a1 < 0 then
    false
    else
    if m_rows ≤ a1 then
    false
    else
    if a2 < 0 then
    false
    else
    if m_columns ≤ a2 then
    false
    else
    true
set_option maxHeartbeats 400000 in
set_option maxRecDepth 100000 in
theorem c_X6_isCell (l : Launch) (dC : Nat → ClassId) (dI : Nat → Nat → Nat) (cI : ClassId) (hM hR hT hZ : Nat) (m_allRows : Int32) (m_allColumns : Int32) (m_rows : Int32) (m_columns : Int32) (m_cells : Int32) (m_cursor : Int32) (m_locked : Bool) (m_insert : Bool) (m_alarms : Int32) (m_rejects : Int32) (m_latest : Int32) (m_thrown : Int32) (m_streamLong : Int32) (m_at : Int32) (m_place : Int32) (m_orders : Int32) (m_escaped : Bool) (m_broken : Bool) (m_signBefore : Bool) (m_free : Bool) (m_waitsLong : Int32) (m_cutOff : Bool) (m_screen : Nat → Int32) (m_stream : Nat → Int32) (m_waits : Nat → Int32) (sz : Nat) (a1 : Int32) (a2 : Int32) (res : Bool) (hf : f_X6_isCell m_rows m_columns a1 a2 = res) : Met l yX6_isCell wsX6_isCell ({ frames := 0, cells := 0, slots := 0, locals := 0 }) (va_Pc [.ref hM, .int a1, .int a2] (my_Pre (dC, dI) [(cI, .int)] (wM hM hR hT hZ cI m_allRows m_allColumns m_rows m_columns m_cells m_cursor m_locked m_insert m_alarms m_rejects m_latest m_thrown m_streamLong m_at m_place m_orders m_escaped m_broken m_signBefore m_free m_waitsLong m_cutOff m_screen m_stream m_waits) sz)) (my_Qi (S := Unit) (dC, dI) [(cI, .int)] (b2i res) (fun _ => wM hM hR hT hZ cI m_allRows m_allColumns m_rows m_columns m_cells m_cursor m_locked m_insert m_alarms m_rejects m_latest m_thrown m_streamLong m_at m_place m_orders m_escaped m_broken m_signBefore m_free m_waitsLong m_cutOff m_screen m_stream m_waits) (va_A (wM hM hR hT hZ cI m_allRows m_allColumns m_rows m_columns m_cells m_cursor m_locked m_insert m_alarms m_rejects m_latest m_thrown m_streamLong m_at m_place m_orders m_escaped m_broken m_signBefore m_free m_waitsLong m_cutOff m_screen m_stream m_waits) sz)) 0 0 (va_A (wM hM hR hT hZ cI m_allRows m_allColumns m_rows m_columns m_cells m_cursor m_locked m_insert m_alarms m_rejects m_latest m_thrown m_streamLong m_at m_place m_orders m_escaped m_broken m_signBefore m_free m_waitsLong m_cutOff m_screen m_stream m_waits) sz) := by
  refine my_enter (cc := cX6_isCell) (maxL := 3) (ret := (some .boolean)) (Qc := my_Qi (S := Unit) (dC, dI) [(cI, .int)] (b2i res) (fun _ => wM hM hR hT hZ cI m_allRows m_allColumns m_rows m_columns m_cells m_cursor m_locked m_insert m_alarms m_rejects m_latest m_thrown m_streamLong m_at m_place m_orders m_escaped m_broken m_signBefore m_free m_waitsLong m_cutOff m_screen m_stream m_waits)) (by decide) rfl (Nat.le_of_ble_eq_true rfl) ?_
  intro p e s m below meth c A ls hx hb hr hml hts hown hlocks hnm hP hK hD hA hS hl
  have hown : s.vm.findClass RX6 = some m.cls := hown
  have hl : lv_has ls 3 [(0, .ref hM), (1, .int a1), (2, .int a2)] := hl
  unfold f_X6_isCell at hf
  refine lv_iload_n hx hb dX6_isCell_0 rfl (lv_at hl 1 rfl) ?_
  refine lv_if_lt (tgt := 28) hx hb dX6_isCell_1 (by decide) (fun c_1 => ?_) (fun c_1 => ?_)
  · have hf := (if_pos c_1).symm.trans hf
    refine lv_iconst (v := 0) hx hb dX6_isCell_28 (by decide) ?_
    subst hf
    exact my_retz () hx hb hr hlocks rfl hK hP hD hS rfl dX6_isCell_29
  · have hf := (if_neg c_1).symm.trans hf
    refine lv_iload_n hx hb dX6_isCell_4 rfl (lv_at hl 1 rfl) ?_
    refine lv_aload_n hx hb dX6_isCell_5 rfl (lv_at hl 0 rfl) ?_
    refine va_get (D := (dC, dI)) (ci := 7) (v := .int m_rows) (C := RX6) (T := TX6) (N := 25) hx hb hts uu_X6_isCell_X6 hown hK hP 0 rfl rfl 2 (by decide) (hts (.fieldLink RX6 40 "BlockScreenModel" "rows" "I") (List.mem_of_getElem? (i := 1) rfl)) (fun _ h9 => h9) rfl dX6_isCell_6 ?_
    refine lv_icmp_ge (tgt := 28) hx hb dX6_isCell_9 (by decide) (fun c_2 => ?_) (fun c_2 => ?_)
    · have hf := (if_pos c_2).symm.trans hf
      refine lv_iconst (v := 0) hx hb dX6_isCell_28 (by decide) ?_
      subst hf
      exact my_retz () hx hb hr hlocks rfl hK hP hD hS rfl dX6_isCell_29
    · have hf := (if_neg c_2).symm.trans hf
      refine lv_iload_n hx hb dX6_isCell_12 rfl (lv_at hl 2 rfl) ?_
      refine lv_if_lt (tgt := 28) hx hb dX6_isCell_13 (by decide) (fun c_3 => ?_) (fun c_3 => ?_)
      · have hf := (if_pos c_3).symm.trans hf
        refine lv_iconst (v := 0) hx hb dX6_isCell_28 (by decide) ?_
        subst hf
        exact my_retz () hx hb hr hlocks rfl hK hP hD hS rfl dX6_isCell_29
      · have hf := (if_neg c_3).symm.trans hf
        refine lv_iload_n hx hb dX6_isCell_16 rfl (lv_at hl 2 rfl) ?_
        refine lv_aload_n hx hb dX6_isCell_17 rfl (lv_at hl 0 rfl) ?_
        refine va_get (D := (dC, dI)) (ci := 7) (v := .int m_columns) (C := RX6) (T := TX6) (N := 25) hx hb hts uu_X6_isCell_X6 hown hK hP 0 rfl rfl 3 (by decide) (hts (.fieldLink RX6 43 "BlockScreenModel" "columns" "I") (List.mem_of_getElem? (i := 2) rfl)) (fun _ h9 => h9) rfl dX6_isCell_18 ?_
        refine lv_icmp_ge (tgt := 28) hx hb dX6_isCell_21 (by decide) (fun c_4 => ?_) (fun c_4 => ?_)
        · have hf := (if_pos c_4).symm.trans hf
          refine lv_iconst (v := 0) hx hb dX6_isCell_28 (by decide) ?_
          subst hf
          exact my_retz () hx hb hr hlocks rfl hK hP hD hS rfl dX6_isCell_29
        · have hf := (if_neg c_4).symm.trans hf
          refine lv_iconst (v := 1) hx hb dX6_isCell_24 (by decide) ?_
          refine lv_goto (tgt := 29) hx hb dX6_isCell_25 (by decide) ?_
          subst hf
          exact my_retz () hx hb hr hlocks rfl hK hP hD hS rfl dX6_isCell_29

theorem uu_X6_sign_X6 : ∀ w ∈ u_ws RX6 TX6 25, w ∈ wsX6_sign := fun _ h => List.mem_cons_of_mem _ (List.mem_append_right _ h)
def f_X6_sign (m_rows : Int32) (m_columns : Int32) (m_thrown : Int32) (m_screen : Nat → Int32) (a1 : Int32) (a2 : Int32) : Option (Int32 × Int32) :=
    if (b2i (f_X6_isCell m_rows m_columns a1 a2)) = 0 then
    some ((-2), 0)
    else
    if ((a1 * m_columns) + a2) < 0 ∨ 5676 ≤ ((a1 * m_columns) + a2).toNatClampNeg then none else
    if (m_screen ((a1 * m_columns) + a2).toNatClampNeg) < 256 then
    some (m_screen ((a1 * m_columns) + a2).toNatClampNeg, 0)
    else
    some ((-1), 0)
set_option maxHeartbeats 400000 in
set_option maxRecDepth 100000 in
theorem c_X6_sign (l : Launch) (dC : Nat → ClassId) (dI : Nat → Nat → Nat) (cI : ClassId) (hM hR hT hZ : Nat) (m_allRows : Int32) (m_allColumns : Int32) (m_rows : Int32) (m_columns : Int32) (m_cells : Int32) (m_cursor : Int32) (m_locked : Bool) (m_insert : Bool) (m_alarms : Int32) (m_rejects : Int32) (m_latest : Int32) (m_thrown : Int32) (m_streamLong : Int32) (m_at : Int32) (m_place : Int32) (m_orders : Int32) (m_escaped : Bool) (m_broken : Bool) (m_signBefore : Bool) (m_free : Bool) (m_waitsLong : Int32) (m_cutOff : Bool) (m_screen : Nat → Int32) (m_stream : Nat → Int32) (m_waits : Nat → Int32) (sz : Nat) (a1 : Int32) (a2 : Int32) (res : Int32 × Int32) (hf : f_X6_sign m_rows m_columns m_thrown m_screen a1 a2 = some res) : Met l yX6_sign wsX6_sign ({ frames := 1, cells := 0, slots := 0, locals := 22 }) (va_Pc [.ref hM, .int a1, .int a2] (my_Pre (dC, dI) [(cI, .int)] (wM hM hR hT hZ cI m_allRows m_allColumns m_rows m_columns m_cells m_cursor m_locked m_insert m_alarms m_rejects m_latest m_thrown m_streamLong m_at m_place m_orders m_escaped m_broken m_signBefore m_free m_waitsLong m_cutOff m_screen m_stream m_waits) sz)) (my_Qi (S := Unit) (dC, dI) [(cI, .int)] res.1 (fun _ => wM hM hR hT hZ cI m_allRows m_allColumns m_rows m_columns m_cells m_cursor m_locked m_insert m_alarms m_rejects m_latest res.2 m_streamLong m_at m_place m_orders m_escaped m_broken m_signBefore m_free m_waitsLong m_cutOff m_screen m_stream m_waits) (va_A (wM hM hR hT hZ cI m_allRows m_allColumns m_rows m_columns m_cells m_cursor m_locked m_insert m_alarms m_rejects m_latest m_thrown m_streamLong m_at m_place m_orders m_escaped m_broken m_signBefore m_free m_waitsLong m_cutOff m_screen m_stream m_waits) sz)) 0 0 (va_A (wM hM hR hT hZ cI m_allRows m_allColumns m_rows m_columns m_cells m_cursor m_locked m_insert m_alarms m_rejects m_latest m_thrown m_streamLong m_at m_place m_orders m_escaped m_broken m_signBefore m_free m_waitsLong m_cutOff m_screen m_stream m_waits) sz) := by
  refine my_enter (cc := cX6_sign) (maxL := 4) (ret := (some .int)) (Qc := my_Qi (S := Unit) (dC, dI) [(cI, .int)] res.1 (fun _ => wM hM hR hT hZ cI m_allRows m_allColumns m_rows m_columns m_cells m_cursor m_locked m_insert m_alarms m_rejects m_latest res.2 m_streamLong m_at m_place m_orders m_escaped m_broken m_signBefore m_free m_waitsLong m_cutOff m_screen m_stream m_waits)) (by decide) rfl (Nat.le_of_ble_eq_true rfl) ?_
  intro p e s m below meth c A ls hx hb hr hml hts hown hlocks hnm hP hK hD hA hS hl
  have hown : s.vm.findClass RX6 = some m.cls := hown
  have hl : lv_has ls 4 [(0, .ref hM), (1, .int a1), (2, .int a2)] := hl
  unfold f_X6_sign at hf
  refine lv_aload_n hx hb dX6_sign_0 rfl (lv_at hl 0 rfl) ?_
  refine lv_iconst (v := 0) hx hb dX6_sign_1 (by decide) ?_
  refine va_put (D := (dC, dI)) (ci := 7) (v := .int 0) (C := RX6) (T := TX6) (N := 25) hx hb hts uu_X6_sign_X6 tyX6 tyX6_ok nmX6 hown hK hP hD hS 0 rfl rfl 12 (by decide) (hts (.fieldLink RX6 37 "BlockScreenModel" "thrown" "I") (List.mem_of_getElem? (i := 1) rfl)) (fun _ h9 => h9) rfl (tyX6_ok 12 (by decide)) rfl rfl (Nat.le_of_ble_eq_true rfl) dX6_sign_2 (fun H locs hP hD hS => ?_)
  have hP : va_P (dC, dI) vwCl (wM hM hR hT hZ cI m_allRows m_allColumns m_rows m_columns m_cells m_cursor m_locked m_insert m_alarms m_rejects m_latest 0 m_streamLong m_at m_place m_orders m_escaped m_broken m_signBefore m_free m_waitsLong m_cutOff m_screen m_stream m_waits) H := hP
  have hD : va_D A (wM hM hR hT hZ cI m_allRows m_allColumns m_rows m_columns m_cells m_cursor m_locked m_insert m_alarms m_rejects m_latest 0 m_streamLong m_at m_place m_orders m_escaped m_broken m_signBefore m_free m_waitsLong m_cutOff m_screen m_stream m_waits) := hD
  refine lv_aload_n hx hb dX6_sign_5 rfl (lv_at hl 0 rfl) ?_
  refine lv_iload_n hx hb dX6_sign_6 rfl (lv_at hl 1 rfl) ?_
  refine lv_iload_n hx hb dX6_sign_7 rfl (lv_at hl 2 rfl) ?_
  refine my_cVi (As := [.int a1, .int a2]) (rest := []) ⟨hx, hb, hml, hown, hts⟩ (c_X6_isCell l dC dI cI hM hR hT hZ m_allRows m_allColumns m_rows m_columns m_cells m_cursor m_locked m_insert m_alarms m_rejects m_latest 0 m_streamLong m_at m_place m_orders m_escaped m_broken m_signBefore m_free m_waitsLong m_cutOff m_screen m_stream m_waits _ a1 a2 (f_X6_isCell m_rows m_columns a1 a2) rfl) (cwV 2 hts gX6_sign_X6_isCell rfl rfl rfl (by decide +kernel) ⟨Nat.le_of_ble_eq_true rfl, Nat.le_of_ble_eq_true rfl⟩) hK hP hD hS hA 0 7 rfl rfl rfl hl.1 rfl (Nat.le_of_ble_eq_true rfl) dX6_sign_8 ⟨Nat.zero_le _, Nat.zero_le _⟩ (fun _ H locs hP hD hS => ?_)
  have hP : va_P (dC, dI) vwCl (wM hM hR hT hZ cI m_allRows m_allColumns m_rows m_columns m_cells m_cursor m_locked m_insert m_alarms m_rejects m_latest 0 m_streamLong m_at m_place m_orders m_escaped m_broken m_signBefore m_free m_waitsLong m_cutOff m_screen m_stream m_waits) H := hP
  have hD : va_D A (wM hM hR hT hZ cI m_allRows m_allColumns m_rows m_columns m_cells m_cursor m_locked m_insert m_alarms m_rejects m_latest 0 m_streamLong m_at m_place m_orders m_escaped m_broken m_signBefore m_free m_waitsLong m_cutOff m_screen m_stream m_waits) := hD
  refine lv_if_ne (tgt := 17) hx hb dX6_sign_11 (by decide) (fun c_2 => ?_) (fun c_2 => ?_)
  · have hf := (if_neg c_2).symm.trans hf
    refine lv_aload_n hx hb dX6_sign_17 rfl (lv_at hl 0 rfl) ?_
    refine va_get (D := (dC, dI)) (ci := 7) (v := .ref hR) (C := RX6) (T := TX6) (N := 25) hx hb hts uu_X6_sign_X6 hown hK hP 0 rfl rfl 6 (by decide) (hts (.fieldLink RX6 7 "BlockScreenModel" "screen" "[I") (List.mem_of_getElem? (i := 2) rfl)) (fun _ h9 => h9) rfl dX6_sign_18 ?_
    refine lv_iload_n hx hb dX6_sign_21 rfl (lv_at hl 1 rfl) ?_
    refine lv_aload_n hx hb dX6_sign_22 rfl (lv_at hl 0 rfl) ?_
    refine va_get (D := (dC, dI)) (ci := 7) (v := .int m_columns) (C := RX6) (T := TX6) (N := 25) hx hb hts uu_X6_sign_X6 hown hK hP 0 rfl rfl 3 (by decide) (hts (.fieldLink RX6 43 "BlockScreenModel" "columns" "I") (List.mem_of_getElem? (i := 3) rfl)) (fun _ h9 => h9) rfl dX6_sign_23 ?_
    refine lv_imul hx hb dX6_sign_26 ?_
    refine lv_iload_n hx hb dX6_sign_27 rfl (lv_at hl 2 rfl) ?_
    refine lv_iadd hx hb dX6_sign_28 ?_
    rcases Classical.em (((a1 * m_columns) + a2) < 0 ∨ 5676 ≤ ((a1 * m_columns) + a2).toNatClampNeg) with c_3 | c_3
    · exact nn_abs ((if_pos c_3).symm.trans hf)
    have hf := (if_neg c_3).symm.trans hf
    refine va_iald hx hb hK hP 1 0 rfl rfl c_3 dX6_sign_29 ?_
    refine lv_istore_n (lv' := [(3, .int (m_screen ((a1 * m_columns) + a2).toNatClampNeg)), (0, .ref hM), (1, .int a1), (2, .int a2)]) hx hb dX6_sign_30 rfl hl (by decide) rfl (fun ls hl => ?_)
    refine lv_iload_n hx hb dX6_sign_31 rfl (lv_at hl 0 rfl) ?_
    refine lv_sipush (v := 256) hx hb dX6_sign_32 (by decide) ?_
    refine lv_icmp_lt (tgt := 42) hx hb dX6_sign_35 (by decide) (fun c_4 => ?_) (fun c_4 => ?_)
    · have hf := (if_pos c_4).symm.trans hf
      refine lv_iload_n hx hb dX6_sign_42 rfl (lv_at hl 0 rfl) ?_
      have hf := Option.some.inj hf
      subst hf
      exact my_reti () hx hb hr hlocks hK hP hD hS rfl dX6_sign_43
    · have hf := (if_neg c_4).symm.trans hf
      refine lv_iconst (v := (-1)) hx hb dX6_sign_38 (by decide) ?_
      refine lv_goto (tgt := 43) hx hb dX6_sign_39 (by decide) ?_
      have hf := Option.some.inj hf
      subst hf
      exact my_reti () hx hb hr hlocks hK hP hD hS rfl dX6_sign_43
  · have hf := (if_pos c_2).symm.trans hf
    refine lv_bipush (v := (-2)) hx hb dX6_sign_14 (by decide) ?_
    have hf := Option.some.inj hf
    subst hf
    exact my_reti () hx hb hr hlocks hK hP hD hS rfl dX6_sign_16

theorem uu_X6_attribute_X6 : ∀ w ∈ u_ws RX6 TX6 25, w ∈ wsX6_attribute := fun _ h => List.mem_cons_of_mem _ (List.mem_append_right _ h)
def f_X6_attribute (m_rows : Int32) (m_columns : Int32) (m_cells : Int32) (m_thrown : Int32) (m_screen : Nat → Int32) (a1 : Int32) (a2 : Int32) : Option (Int32 × Int32) :=
    if (b2i (f_X6_isCell m_rows m_columns a1 a2)) = 0 then
    some ((-2), 0)
    else
    Option.bind (f_X6_isAttribute m_screen ((a1 * m_columns) + a2)) (fun r_3 =>
    if (b2i r_3) = 0 then
    Option.bind (f_X6_home m_cells m_screen ((a1 * m_columns) + a2)) (fun r_5 =>
    if r_5 = (-1) then
    some ((-1), 0)
    else
    Option.bind (f_X6_attributeOf m_cells m_screen ((a1 * m_columns) + a2)) (fun r_7 =>
    some (r_7, 0)))
    else
    if ((a1 * m_columns) + a2) < 0 ∨ 5676 ≤ ((a1 * m_columns) + a2).toNatClampNeg then none else
    some (m_screen ((a1 * m_columns) + a2).toNatClampNeg, 0))
set_option maxHeartbeats 400000 in
set_option maxRecDepth 100000 in
theorem c_X6_attribute (l : Launch) (dC : Nat → ClassId) (dI : Nat → Nat → Nat) (cI : ClassId) (hM hR hT hZ : Nat) (m_allRows : Int32) (m_allColumns : Int32) (m_rows : Int32) (m_columns : Int32) (m_cells : Int32) (m_cursor : Int32) (m_locked : Bool) (m_insert : Bool) (m_alarms : Int32) (m_rejects : Int32) (m_latest : Int32) (m_thrown : Int32) (m_streamLong : Int32) (m_at : Int32) (m_place : Int32) (m_orders : Int32) (m_escaped : Bool) (m_broken : Bool) (m_signBefore : Bool) (m_free : Bool) (m_waitsLong : Int32) (m_cutOff : Bool) (m_screen : Nat → Int32) (m_stream : Nat → Int32) (m_waits : Nat → Int32) (sz : Nat) (a1 : Int32) (a2 : Int32) (res : Int32 × Int32) (hf : f_X6_attribute m_rows m_columns m_cells m_thrown m_screen a1 a2 = some res) : Met l yX6_attribute wsX6_attribute ({ frames := 3, cells := 0, slots := 0, locals := 65 }) (va_Pc [.ref hM, .int a1, .int a2] (my_Pre (dC, dI) [(cI, .int)] (wM hM hR hT hZ cI m_allRows m_allColumns m_rows m_columns m_cells m_cursor m_locked m_insert m_alarms m_rejects m_latest m_thrown m_streamLong m_at m_place m_orders m_escaped m_broken m_signBefore m_free m_waitsLong m_cutOff m_screen m_stream m_waits) sz)) (my_Qi (S := Unit) (dC, dI) [(cI, .int)] res.1 (fun _ => wM hM hR hT hZ cI m_allRows m_allColumns m_rows m_columns m_cells m_cursor m_locked m_insert m_alarms m_rejects m_latest res.2 m_streamLong m_at m_place m_orders m_escaped m_broken m_signBefore m_free m_waitsLong m_cutOff m_screen m_stream m_waits) (va_A (wM hM hR hT hZ cI m_allRows m_allColumns m_rows m_columns m_cells m_cursor m_locked m_insert m_alarms m_rejects m_latest m_thrown m_streamLong m_at m_place m_orders m_escaped m_broken m_signBefore m_free m_waitsLong m_cutOff m_screen m_stream m_waits) sz)) 0 0 (va_A (wM hM hR hT hZ cI m_allRows m_allColumns m_rows m_columns m_cells m_cursor m_locked m_insert m_alarms m_rejects m_latest m_thrown m_streamLong m_at m_place m_orders m_escaped m_broken m_signBefore m_free m_waitsLong m_cutOff m_screen m_stream m_waits) sz) := by
  refine my_enter (cc := cX6_attribute) (maxL := 4) (ret := (some .int)) (Qc := my_Qi (S := Unit) (dC, dI) [(cI, .int)] res.1 (fun _ => wM hM hR hT hZ cI m_allRows m_allColumns m_rows m_columns m_cells m_cursor m_locked m_insert m_alarms m_rejects m_latest res.2 m_streamLong m_at m_place m_orders m_escaped m_broken m_signBefore m_free m_waitsLong m_cutOff m_screen m_stream m_waits)) (by decide) rfl (Nat.le_of_ble_eq_true rfl) ?_
  intro p e s m below meth c A ls hx hb hr hml hts hown hlocks hnm hP hK hD hA hS hl
  have hown : s.vm.findClass RX6 = some m.cls := hown
  have hl : lv_has ls 4 [(0, .ref hM), (1, .int a1), (2, .int a2)] := hl
  unfold f_X6_attribute at hf
  refine lv_aload_n hx hb dX6_attribute_0 rfl (lv_at hl 0 rfl) ?_
  refine lv_iconst (v := 0) hx hb dX6_attribute_1 (by decide) ?_
  refine va_put (D := (dC, dI)) (ci := 7) (v := .int 0) (C := RX6) (T := TX6) (N := 25) hx hb hts uu_X6_attribute_X6 tyX6 tyX6_ok nmX6 hown hK hP hD hS 0 rfl rfl 12 (by decide) (hts (.fieldLink RX6 37 "BlockScreenModel" "thrown" "I") (List.mem_of_getElem? (i := 1) rfl)) (fun _ h9 => h9) rfl (tyX6_ok 12 (by decide)) rfl rfl (Nat.le_of_ble_eq_true rfl) dX6_attribute_2 (fun H locs hP hD hS => ?_)
  have hP : va_P (dC, dI) vwCl (wM hM hR hT hZ cI m_allRows m_allColumns m_rows m_columns m_cells m_cursor m_locked m_insert m_alarms m_rejects m_latest 0 m_streamLong m_at m_place m_orders m_escaped m_broken m_signBefore m_free m_waitsLong m_cutOff m_screen m_stream m_waits) H := hP
  have hD : va_D A (wM hM hR hT hZ cI m_allRows m_allColumns m_rows m_columns m_cells m_cursor m_locked m_insert m_alarms m_rejects m_latest 0 m_streamLong m_at m_place m_orders m_escaped m_broken m_signBefore m_free m_waitsLong m_cutOff m_screen m_stream m_waits) := hD
  refine lv_aload_n hx hb dX6_attribute_5 rfl (lv_at hl 0 rfl) ?_
  refine lv_iload_n hx hb dX6_attribute_6 rfl (lv_at hl 1 rfl) ?_
  refine lv_iload_n hx hb dX6_attribute_7 rfl (lv_at hl 2 rfl) ?_
  refine my_cVi (As := [.int a1, .int a2]) (rest := []) ⟨hx, hb, hml, hown, hts⟩ (c_X6_isCell l dC dI cI hM hR hT hZ m_allRows m_allColumns m_rows m_columns m_cells m_cursor m_locked m_insert m_alarms m_rejects m_latest 0 m_streamLong m_at m_place m_orders m_escaped m_broken m_signBefore m_free m_waitsLong m_cutOff m_screen m_stream m_waits _ a1 a2 (f_X6_isCell m_rows m_columns a1 a2) rfl) (cwV 2 hts gX6_attribute_X6_isCell rfl rfl rfl (by decide +kernel) ⟨Nat.le_of_ble_eq_true rfl, Nat.le_of_ble_eq_true rfl⟩) hK hP hD hS hA 0 7 rfl rfl rfl hl.1 rfl (Nat.le_of_ble_eq_true rfl) dX6_attribute_8 ⟨Nat.zero_le _, Nat.zero_le _⟩ (fun _ H locs hP hD hS => ?_)
  have hP : va_P (dC, dI) vwCl (wM hM hR hT hZ cI m_allRows m_allColumns m_rows m_columns m_cells m_cursor m_locked m_insert m_alarms m_rejects m_latest 0 m_streamLong m_at m_place m_orders m_escaped m_broken m_signBefore m_free m_waitsLong m_cutOff m_screen m_stream m_waits) H := hP
  have hD : va_D A (wM hM hR hT hZ cI m_allRows m_allColumns m_rows m_columns m_cells m_cursor m_locked m_insert m_alarms m_rejects m_latest 0 m_streamLong m_at m_place m_orders m_escaped m_broken m_signBefore m_free m_waitsLong m_cutOff m_screen m_stream m_waits) := hD
  refine lv_if_ne (tgt := 17) hx hb dX6_attribute_11 (by decide) (fun c_2 => ?_) (fun c_2 => ?_)
  · have hf := (if_neg c_2).symm.trans hf
    refine lv_iload_n hx hb dX6_attribute_17 rfl (lv_at hl 1 rfl) ?_
    refine lv_aload_n hx hb dX6_attribute_18 rfl (lv_at hl 0 rfl) ?_
    refine va_get (D := (dC, dI)) (ci := 7) (v := .int m_columns) (C := RX6) (T := TX6) (N := 25) hx hb hts uu_X6_attribute_X6 hown hK hP 0 rfl rfl 3 (by decide) (hts (.fieldLink RX6 43 "BlockScreenModel" "columns" "I") (List.mem_of_getElem? (i := 2) rfl)) (fun _ h9 => h9) rfl dX6_attribute_19 ?_
    refine lv_imul hx hb dX6_attribute_22 ?_
    refine lv_iload_n hx hb dX6_attribute_23 rfl (lv_at hl 2 rfl) ?_
    refine lv_iadd hx hb dX6_attribute_24 ?_
    refine lv_istore_n (lv' := [(3, .int ((a1 * m_columns) + a2)), (0, .ref hM), (1, .int a1), (2, .int a2)]) hx hb dX6_attribute_25 rfl hl (by decide) rfl (fun ls hl => ?_)
    refine lv_aload_n hx hb dX6_attribute_26 rfl (lv_at hl 1 rfl) ?_
    refine lv_iload_n hx hb dX6_attribute_27 rfl (lv_at hl 0 rfl) ?_
    obtain ⟨r_3, hq_3, hf⟩ := ob_inv hf
    refine my_cVi (As := [.int ((a1 * m_columns) + a2)]) (rest := []) ⟨hx, hb, hml, hown, hts⟩ (c_X6_isAttribute l dC dI cI hM hR hT hZ m_allRows m_allColumns m_rows m_columns m_cells m_cursor m_locked m_insert m_alarms m_rejects m_latest 0 m_streamLong m_at m_place m_orders m_escaped m_broken m_signBefore m_free m_waitsLong m_cutOff m_screen m_stream m_waits _ ((a1 * m_columns) + a2) r_3 hq_3) (cwV 1 hts gX6_attribute_X6_isAttribute rfl rfl rfl (by decide +kernel) ⟨Nat.le_of_ble_eq_true rfl, Nat.le_of_ble_eq_true rfl⟩) hK hP hD hS hA 0 7 rfl rfl rfl hl.1 rfl (Nat.le_of_ble_eq_true rfl) dX6_attribute_28 ⟨Nat.zero_le _, Nat.zero_le _⟩ (fun _ H locs hP hD hS => ?_)
    have hP : va_P (dC, dI) vwCl (wM hM hR hT hZ cI m_allRows m_allColumns m_rows m_columns m_cells m_cursor m_locked m_insert m_alarms m_rejects m_latest 0 m_streamLong m_at m_place m_orders m_escaped m_broken m_signBefore m_free m_waitsLong m_cutOff m_screen m_stream m_waits) H := hP
    have hD : va_D A (wM hM hR hT hZ cI m_allRows m_allColumns m_rows m_columns m_cells m_cursor m_locked m_insert m_alarms m_rejects m_latest 0 m_streamLong m_at m_place m_orders m_escaped m_broken m_signBefore m_free m_waitsLong m_cutOff m_screen m_stream m_waits) := hD
    refine lv_if_eq (tgt := 41) hx hb dX6_attribute_31 (by decide) (fun c_4 => ?_) (fun c_4 => ?_)
    · have hf := (if_pos c_4).symm.trans hf
      refine lv_aload_n hx hb dX6_attribute_41 rfl (lv_at hl 1 rfl) ?_
      refine lv_iload_n hx hb dX6_attribute_42 rfl (lv_at hl 0 rfl) ?_
      obtain ⟨r_5, hq_5, hf⟩ := ob_inv hf
      refine my_cVi (As := [.int ((a1 * m_columns) + a2)]) (rest := []) ⟨hx, hb, hml, hown, hts⟩ (c_X6_home l dC dI cI hM hR hT hZ m_allRows m_allColumns m_rows m_columns m_cells m_cursor m_locked m_insert m_alarms m_rejects m_latest 0 m_streamLong m_at m_place m_orders m_escaped m_broken m_signBefore m_free m_waitsLong m_cutOff m_screen m_stream m_waits _ ((a1 * m_columns) + a2) r_5 hq_5) (cwV 1 hts gX6_attribute_X6_home rfl rfl rfl (by decide +kernel) ⟨Nat.le_of_ble_eq_true rfl, Nat.le_of_ble_eq_true rfl⟩) hK hP hD hS hA 0 7 rfl rfl rfl hl.1 rfl (Nat.le_of_ble_eq_true rfl) dX6_attribute_43 ⟨Nat.zero_le _, Nat.zero_le _⟩ (fun _ H locs hP hD hS => ?_)
      have hP : va_P (dC, dI) vwCl (wM hM hR hT hZ cI m_allRows m_allColumns m_rows m_columns m_cells m_cursor m_locked m_insert m_alarms m_rejects m_latest 0 m_streamLong m_at m_place m_orders m_escaped m_broken m_signBefore m_free m_waitsLong m_cutOff m_screen m_stream m_waits) H := hP
      have hD : va_D A (wM hM hR hT hZ cI m_allRows m_allColumns m_rows m_columns m_cells m_cursor m_locked m_insert m_alarms m_rejects m_latest 0 m_streamLong m_at m_place m_orders m_escaped m_broken m_signBefore m_free m_waitsLong m_cutOff m_screen m_stream m_waits) := hD
      refine lv_iconst (v := (-1)) hx hb dX6_attribute_46 (by decide) ?_
      refine lv_icmp_ne (tgt := 54) hx hb dX6_attribute_47 (by decide) (fun c_6 => ?_) (fun c_6 => ?_)
      · have hf := (if_neg c_6).symm.trans hf
        refine lv_aload_n hx hb dX6_attribute_54 rfl (lv_at hl 1 rfl) ?_
        refine lv_iload_n hx hb dX6_attribute_55 rfl (lv_at hl 0 rfl) ?_
        obtain ⟨r_7, hq_7, hf⟩ := ob_inv hf
        refine my_cVi (As := [.int ((a1 * m_columns) + a2)]) (rest := []) ⟨hx, hb, hml, hown, hts⟩ (c_X6_attributeOf l dC dI cI hM hR hT hZ m_allRows m_allColumns m_rows m_columns m_cells m_cursor m_locked m_insert m_alarms m_rejects m_latest 0 m_streamLong m_at m_place m_orders m_escaped m_broken m_signBefore m_free m_waitsLong m_cutOff m_screen m_stream m_waits _ ((a1 * m_columns) + a2) r_7 hq_7) (cwV 1 hts gX6_attribute_X6_attributeOf rfl rfl rfl (by decide +kernel) ⟨Nat.le_of_ble_eq_true rfl, Nat.le_of_ble_eq_true rfl⟩) hK hP hD hS hA 0 7 rfl rfl rfl hl.1 rfl (Nat.le_of_ble_eq_true rfl) dX6_attribute_56 ⟨Nat.zero_le _, Nat.zero_le _⟩ (fun _ H locs hP hD hS => ?_)
        have hP : va_P (dC, dI) vwCl (wM hM hR hT hZ cI m_allRows m_allColumns m_rows m_columns m_cells m_cursor m_locked m_insert m_alarms m_rejects m_latest 0 m_streamLong m_at m_place m_orders m_escaped m_broken m_signBefore m_free m_waitsLong m_cutOff m_screen m_stream m_waits) H := hP
        have hD : va_D A (wM hM hR hT hZ cI m_allRows m_allColumns m_rows m_columns m_cells m_cursor m_locked m_insert m_alarms m_rejects m_latest 0 m_streamLong m_at m_place m_orders m_escaped m_broken m_signBefore m_free m_waitsLong m_cutOff m_screen m_stream m_waits) := hD
        have hf := Option.some.inj hf
        subst hf
        exact my_reti () hx hb hr hlocks hK hP hD hS rfl dX6_attribute_59
      · have hf := (if_pos c_6).symm.trans hf
        refine lv_iconst (v := (-1)) hx hb dX6_attribute_50 (by decide) ?_
        refine lv_goto (tgt := 59) hx hb dX6_attribute_51 (by decide) ?_
        have hf := Option.some.inj hf
        subst hf
        exact my_reti () hx hb hr hlocks hK hP hD hS rfl dX6_attribute_59
    · have hf := (if_neg c_4).symm.trans hf
      refine lv_aload_n hx hb dX6_attribute_34 rfl (lv_at hl 1 rfl) ?_
      refine va_get (D := (dC, dI)) (ci := 7) (v := .ref hR) (C := RX6) (T := TX6) (N := 25) hx hb hts uu_X6_attribute_X6 hown hK hP 0 rfl rfl 6 (by decide) (hts (.fieldLink RX6 7 "BlockScreenModel" "screen" "[I") (List.mem_of_getElem? (i := 3) rfl)) (fun _ h9 => h9) rfl dX6_attribute_35 ?_
      refine lv_iload_n hx hb dX6_attribute_38 rfl (lv_at hl 0 rfl) ?_
      rcases Classical.em (((a1 * m_columns) + a2) < 0 ∨ 5676 ≤ ((a1 * m_columns) + a2).toNatClampNeg) with c_8 | c_8
      · exact nn_abs ((if_pos c_8).symm.trans hf)
      have hf := (if_neg c_8).symm.trans hf
      refine va_iald hx hb hK hP 1 0 rfl rfl c_8 dX6_attribute_39 ?_
      have hf := Option.some.inj hf
      subst hf
      exact my_reti () hx hb hr hlocks hK hP hD hS rfl dX6_attribute_40
  · have hf := (if_pos c_2).symm.trans hf
    refine lv_bipush (v := (-2)) hx hb dX6_attribute_14 (by decide) ?_
    have hf := Option.some.inj hf
    subst hf
    exact my_reti () hx hb hr hlocks hK hP hD hS rfl dX6_attribute_16

theorem uu_X6_inbound_X6 : ∀ w ∈ u_ws RX6 TX6 25, w ∈ wsX6_inbound := fun _ h => List.mem_cons_of_mem _ (List.mem_append_right _ h)
def f_X6_inbound (m_thrown : Int32) (m_waitsLong : Int32) : Int32 × Int32 :=
    (m_waitsLong, 0)
set_option maxHeartbeats 400000 in
set_option maxRecDepth 100000 in
theorem c_X6_inbound (l : Launch) (dC : Nat → ClassId) (dI : Nat → Nat → Nat) (cI : ClassId) (hM hR hT hZ : Nat) (m_allRows : Int32) (m_allColumns : Int32) (m_rows : Int32) (m_columns : Int32) (m_cells : Int32) (m_cursor : Int32) (m_locked : Bool) (m_insert : Bool) (m_alarms : Int32) (m_rejects : Int32) (m_latest : Int32) (m_thrown : Int32) (m_streamLong : Int32) (m_at : Int32) (m_place : Int32) (m_orders : Int32) (m_escaped : Bool) (m_broken : Bool) (m_signBefore : Bool) (m_free : Bool) (m_waitsLong : Int32) (m_cutOff : Bool) (m_screen : Nat → Int32) (m_stream : Nat → Int32) (m_waits : Nat → Int32) (sz : Nat)  (res : Int32 × Int32) (hf : f_X6_inbound m_thrown m_waitsLong = res) : Met l yX6_inbound wsX6_inbound ({ frames := 0, cells := 0, slots := 0, locals := 0 }) (va_Pc [.ref hM] (my_Pre (dC, dI) [(cI, .int)] (wM hM hR hT hZ cI m_allRows m_allColumns m_rows m_columns m_cells m_cursor m_locked m_insert m_alarms m_rejects m_latest m_thrown m_streamLong m_at m_place m_orders m_escaped m_broken m_signBefore m_free m_waitsLong m_cutOff m_screen m_stream m_waits) sz)) (my_Qi (S := Unit) (dC, dI) [(cI, .int)] res.1 (fun _ => wM hM hR hT hZ cI m_allRows m_allColumns m_rows m_columns m_cells m_cursor m_locked m_insert m_alarms m_rejects m_latest res.2 m_streamLong m_at m_place m_orders m_escaped m_broken m_signBefore m_free m_waitsLong m_cutOff m_screen m_stream m_waits) (va_A (wM hM hR hT hZ cI m_allRows m_allColumns m_rows m_columns m_cells m_cursor m_locked m_insert m_alarms m_rejects m_latest m_thrown m_streamLong m_at m_place m_orders m_escaped m_broken m_signBefore m_free m_waitsLong m_cutOff m_screen m_stream m_waits) sz)) 0 0 (va_A (wM hM hR hT hZ cI m_allRows m_allColumns m_rows m_columns m_cells m_cursor m_locked m_insert m_alarms m_rejects m_latest m_thrown m_streamLong m_at m_place m_orders m_escaped m_broken m_signBefore m_free m_waitsLong m_cutOff m_screen m_stream m_waits) sz) := by
  refine my_enter (cc := cX6_inbound) (maxL := 1) (ret := (some .int)) (Qc := my_Qi (S := Unit) (dC, dI) [(cI, .int)] res.1 (fun _ => wM hM hR hT hZ cI m_allRows m_allColumns m_rows m_columns m_cells m_cursor m_locked m_insert m_alarms m_rejects m_latest res.2 m_streamLong m_at m_place m_orders m_escaped m_broken m_signBefore m_free m_waitsLong m_cutOff m_screen m_stream m_waits)) (by decide) rfl (Nat.le_of_ble_eq_true rfl) ?_
  intro p e s m below meth c A ls hx hb hr hml hts hown hlocks hnm hP hK hD hA hS hl
  have hown : s.vm.findClass RX6 = some m.cls := hown
  have hl : lv_has ls 1 [(0, .ref hM)] := hl
  unfold f_X6_inbound at hf
  refine lv_aload_n hx hb dX6_inbound_0 rfl (lv_at hl 0 rfl) ?_
  refine lv_iconst (v := 0) hx hb dX6_inbound_1 (by decide) ?_
  refine va_put (D := (dC, dI)) (ci := 7) (v := .int 0) (C := RX6) (T := TX6) (N := 25) hx hb hts uu_X6_inbound_X6 tyX6 tyX6_ok nmX6 hown hK hP hD hS 0 rfl rfl 12 (by decide) (hts (.fieldLink RX6 37 "BlockScreenModel" "thrown" "I") (List.mem_of_getElem? (i := 1) rfl)) (fun _ h9 => h9) rfl (tyX6_ok 12 (by decide)) rfl rfl (Nat.le_of_ble_eq_true rfl) dX6_inbound_2 (fun H locs hP hD hS => ?_)
  have hP : va_P (dC, dI) vwCl (wM hM hR hT hZ cI m_allRows m_allColumns m_rows m_columns m_cells m_cursor m_locked m_insert m_alarms m_rejects m_latest 0 m_streamLong m_at m_place m_orders m_escaped m_broken m_signBefore m_free m_waitsLong m_cutOff m_screen m_stream m_waits) H := hP
  have hD : va_D A (wM hM hR hT hZ cI m_allRows m_allColumns m_rows m_columns m_cells m_cursor m_locked m_insert m_alarms m_rejects m_latest 0 m_streamLong m_at m_place m_orders m_escaped m_broken m_signBefore m_free m_waitsLong m_cutOff m_screen m_stream m_waits) := hD
  refine lv_aload_n hx hb dX6_inbound_5 rfl (lv_at hl 0 rfl) ?_
  refine va_get (D := (dC, dI)) (ci := 7) (v := .int m_waitsLong) (C := RX6) (T := TX6) (N := 25) hx hb hts uu_X6_inbound_X6 hown hK hP 0 rfl rfl 23 (by decide) (hts (.fieldLink RX6 137 "BlockScreenModel" "waitsLong" "I") (List.mem_of_getElem? (i := 2) rfl)) (fun _ h9 => h9) rfl dX6_inbound_6 ?_
  subst hf
  exact my_reti () hx hb hr hlocks hK hP hD hS rfl dX6_inbound_9

theorem uu_X6_octet_X6 : ∀ w ∈ u_ws RX6 TX6 25, w ∈ wsX6_octet := fun _ h => List.mem_cons_of_mem _ (List.mem_append_right _ h)
def f_X6_octet (m_thrown : Int32) (m_waitsLong : Int32) (m_waits : Nat → Int32) (a1 : Int32) : Option (Int32 × Int32) :=
    if a1 < 0 then
    some (0, 1)
    else
    if a1 < m_waitsLong then
    if a1 < 0 ∨ 23000 ≤ a1.toNatClampNeg then none else
    some ((m_waits a1.toNatClampNeg).toInt8.toInt32, 0)
    else
    some (0, 1)
set_option maxHeartbeats 400000 in
set_option maxRecDepth 100000 in
theorem c_X6_octet (l : Launch) (dC : Nat → ClassId) (dI : Nat → Nat → Nat) (cI : ClassId) (hM hR hT hZ : Nat) (m_allRows : Int32) (m_allColumns : Int32) (m_rows : Int32) (m_columns : Int32) (m_cells : Int32) (m_cursor : Int32) (m_locked : Bool) (m_insert : Bool) (m_alarms : Int32) (m_rejects : Int32) (m_latest : Int32) (m_thrown : Int32) (m_streamLong : Int32) (m_at : Int32) (m_place : Int32) (m_orders : Int32) (m_escaped : Bool) (m_broken : Bool) (m_signBefore : Bool) (m_free : Bool) (m_waitsLong : Int32) (m_cutOff : Bool) (m_screen : Nat → Int32) (m_stream : Nat → Int32) (m_waits : Nat → Int32) (sz : Nat) (a1 : Int32) (res : Int32 × Int32) (hf : f_X6_octet m_thrown m_waitsLong m_waits a1 = some res) : Met l yX6_octet wsX6_octet ({ frames := 0, cells := 0, slots := 0, locals := 0 }) (va_Pc [.ref hM, .int a1] (my_Pre (dC, dI) [(cI, .int)] (wM hM hR hT hZ cI m_allRows m_allColumns m_rows m_columns m_cells m_cursor m_locked m_insert m_alarms m_rejects m_latest m_thrown m_streamLong m_at m_place m_orders m_escaped m_broken m_signBefore m_free m_waitsLong m_cutOff m_screen m_stream m_waits) sz)) (my_Qi (S := Unit) (dC, dI) [(cI, .int)] res.1 (fun _ => wM hM hR hT hZ cI m_allRows m_allColumns m_rows m_columns m_cells m_cursor m_locked m_insert m_alarms m_rejects m_latest res.2 m_streamLong m_at m_place m_orders m_escaped m_broken m_signBefore m_free m_waitsLong m_cutOff m_screen m_stream m_waits) (va_A (wM hM hR hT hZ cI m_allRows m_allColumns m_rows m_columns m_cells m_cursor m_locked m_insert m_alarms m_rejects m_latest m_thrown m_streamLong m_at m_place m_orders m_escaped m_broken m_signBefore m_free m_waitsLong m_cutOff m_screen m_stream m_waits) sz)) 0 0 (va_A (wM hM hR hT hZ cI m_allRows m_allColumns m_rows m_columns m_cells m_cursor m_locked m_insert m_alarms m_rejects m_latest m_thrown m_streamLong m_at m_place m_orders m_escaped m_broken m_signBefore m_free m_waitsLong m_cutOff m_screen m_stream m_waits) sz) := by
  refine my_enter (cc := cX6_octet) (maxL := 2) (ret := (some .byte)) (Qc := my_Qi (S := Unit) (dC, dI) [(cI, .int)] res.1 (fun _ => wM hM hR hT hZ cI m_allRows m_allColumns m_rows m_columns m_cells m_cursor m_locked m_insert m_alarms m_rejects m_latest res.2 m_streamLong m_at m_place m_orders m_escaped m_broken m_signBefore m_free m_waitsLong m_cutOff m_screen m_stream m_waits)) (by decide) rfl (Nat.le_of_ble_eq_true rfl) ?_
  intro p e s m below meth c A ls hx hb hr hml hts hown hlocks hnm hP hK hD hA hS hl
  have hown : s.vm.findClass RX6 = some m.cls := hown
  have hl : lv_has ls 2 [(0, .ref hM), (1, .int a1)] := hl
  unfold f_X6_octet at hf
  refine lv_aload_n hx hb dX6_octet_0 rfl (lv_at hl 0 rfl) ?_
  refine lv_iload_n hx hb dX6_octet_1 rfl (lv_at hl 1 rfl) ?_
  refine lv_if_lt (tgt := 13) hx hb dX6_octet_2 (by decide) (fun c_1 => ?_) (fun c_1 => ?_)
  · have hf := (if_pos c_1).symm.trans hf
    refine lv_iconst (v := 1) hx hb dX6_octet_13 (by decide) ?_
    refine lv_goto (tgt := 18) hx hb dX6_octet_14 (by decide) ?_
    refine va_put (D := (dC, dI)) (ci := 7) (v := .int 1) (C := RX6) (T := TX6) (N := 25) hx hb hts uu_X6_octet_X6 tyX6 tyX6_ok nmX6 hown hK hP hD hS 0 rfl rfl 12 (by decide) (hts (.fieldLink RX6 37 "BlockScreenModel" "thrown" "I") (List.mem_of_getElem? (i := 2) rfl)) (fun _ h9 => h9) rfl (tyX6_ok 12 (by decide)) rfl rfl (Nat.le_of_ble_eq_true rfl) dX6_octet_18 (fun H locs hP hD hS => ?_)
    have hP : va_P (dC, dI) vwCl (wM hM hR hT hZ cI m_allRows m_allColumns m_rows m_columns m_cells m_cursor m_locked m_insert m_alarms m_rejects m_latest 1 m_streamLong m_at m_place m_orders m_escaped m_broken m_signBefore m_free m_waitsLong m_cutOff m_screen m_stream m_waits) H := hP
    have hD : va_D A (wM hM hR hT hZ cI m_allRows m_allColumns m_rows m_columns m_cells m_cursor m_locked m_insert m_alarms m_rejects m_latest 1 m_streamLong m_at m_place m_orders m_escaped m_broken m_signBefore m_free m_waitsLong m_cutOff m_screen m_stream m_waits) := hD
    refine lv_aload_n hx hb dX6_octet_21 rfl (lv_at hl 0 rfl) ?_
    refine va_get (D := (dC, dI)) (ci := 7) (v := .int 1) (C := RX6) (T := TX6) (N := 25) hx hb hts uu_X6_octet_X6 hown hK hP 0 rfl rfl 12 (by decide) (hts (.fieldLink RX6 37 "BlockScreenModel" "thrown" "I") (List.mem_of_getElem? (i := 2) rfl)) (fun _ h9 => h9) rfl dX6_octet_22 ?_
    refine lv_if_eq (tgt := 32) hx hb dX6_octet_25 (by decide) (fun c_2 => ?_) (fun c_2 => ?_)
    · exact absurd c_2 (by decide)
    · refine lv_iconst (v := 0) hx hb dX6_octet_28 (by decide) ?_
      refine lv_goto (tgt := 39) hx hb dX6_octet_29 (by decide) ?_
      have hf := Option.some.inj hf
      subst hf
      exact my_retz () hx hb hr hlocks rfl hK hP hD hS rfl dX6_octet_39
  · have hf := (if_neg c_1).symm.trans hf
    refine lv_iload_n hx hb dX6_octet_5 rfl (lv_at hl 1 rfl) ?_
    refine lv_aload_n hx hb dX6_octet_6 rfl (lv_at hl 0 rfl) ?_
    refine va_get (D := (dC, dI)) (ci := 7) (v := .int m_waitsLong) (C := RX6) (T := TX6) (N := 25) hx hb hts uu_X6_octet_X6 hown hK hP 0 rfl rfl 23 (by decide) (hts (.fieldLink RX6 137 "BlockScreenModel" "waitsLong" "I") (List.mem_of_getElem? (i := 1) rfl)) (fun _ h9 => h9) rfl dX6_octet_7 ?_
    refine lv_icmp_lt (tgt := 17) hx hb dX6_octet_10 (by decide) (fun c_3 => ?_) (fun c_3 => ?_)
    · have hf := (if_pos c_3).symm.trans hf
      refine lv_iconst (v := 0) hx hb dX6_octet_17 (by decide) ?_
      refine va_put (D := (dC, dI)) (ci := 7) (v := .int 0) (C := RX6) (T := TX6) (N := 25) hx hb hts uu_X6_octet_X6 tyX6 tyX6_ok nmX6 hown hK hP hD hS 0 rfl rfl 12 (by decide) (hts (.fieldLink RX6 37 "BlockScreenModel" "thrown" "I") (List.mem_of_getElem? (i := 2) rfl)) (fun _ h9 => h9) rfl (tyX6_ok 12 (by decide)) rfl rfl (Nat.le_of_ble_eq_true rfl) dX6_octet_18 (fun H locs hP hD hS => ?_)
      have hP : va_P (dC, dI) vwCl (wM hM hR hT hZ cI m_allRows m_allColumns m_rows m_columns m_cells m_cursor m_locked m_insert m_alarms m_rejects m_latest 0 m_streamLong m_at m_place m_orders m_escaped m_broken m_signBefore m_free m_waitsLong m_cutOff m_screen m_stream m_waits) H := hP
      have hD : va_D A (wM hM hR hT hZ cI m_allRows m_allColumns m_rows m_columns m_cells m_cursor m_locked m_insert m_alarms m_rejects m_latest 0 m_streamLong m_at m_place m_orders m_escaped m_broken m_signBefore m_free m_waitsLong m_cutOff m_screen m_stream m_waits) := hD
      refine lv_aload_n hx hb dX6_octet_21 rfl (lv_at hl 0 rfl) ?_
      refine va_get (D := (dC, dI)) (ci := 7) (v := .int 0) (C := RX6) (T := TX6) (N := 25) hx hb hts uu_X6_octet_X6 hown hK hP 0 rfl rfl 12 (by decide) (hts (.fieldLink RX6 37 "BlockScreenModel" "thrown" "I") (List.mem_of_getElem? (i := 2) rfl)) (fun _ h9 => h9) rfl dX6_octet_22 ?_
      refine lv_if_eq (tgt := 32) hx hb dX6_octet_25 (by decide) (fun c_4 => ?_) (fun c_4 => ?_)
      · refine lv_aload_n hx hb dX6_octet_32 rfl (lv_at hl 0 rfl) ?_
        refine va_get (D := (dC, dI)) (ci := 7) (v := .ref hZ) (C := RX6) (T := TX6) (N := 25) hx hb hts uu_X6_octet_X6 hown hK hP 0 rfl rfl 22 (by decide) (hts (.fieldLink RX6 24 "BlockScreenModel" "waits" "[I") (List.mem_of_getElem? (i := 3) rfl)) (fun _ h9 => h9) rfl dX6_octet_33 ?_
        refine lv_iload_n hx hb dX6_octet_36 rfl (lv_at hl 1 rfl) ?_
        rcases Classical.em (a1 < 0 ∨ 23000 ≤ a1.toNatClampNeg) with c_5 | c_5
        · exact nn_abs ((if_pos c_5).symm.trans hf)
        have hf := (if_neg c_5).symm.trans hf
        refine va_iald hx hb hK hP 3 0 rfl rfl c_5 dX6_octet_37 ?_
        refine lv_i2b hx hb dX6_octet_38 rfl ?_
        have hf := Option.some.inj hf
        subst hf
        exact my_retz () hx hb hr hlocks (pk_nb _) hK hP hD hS rfl dX6_octet_39
      · exact absurd (by decide) c_4
    · have hf := (if_neg c_3).symm.trans hf
      refine lv_iconst (v := 1) hx hb dX6_octet_13 (by decide) ?_
      refine lv_goto (tgt := 18) hx hb dX6_octet_14 (by decide) ?_
      refine va_put (D := (dC, dI)) (ci := 7) (v := .int 1) (C := RX6) (T := TX6) (N := 25) hx hb hts uu_X6_octet_X6 tyX6 tyX6_ok nmX6 hown hK hP hD hS 0 rfl rfl 12 (by decide) (hts (.fieldLink RX6 37 "BlockScreenModel" "thrown" "I") (List.mem_of_getElem? (i := 2) rfl)) (fun _ h9 => h9) rfl (tyX6_ok 12 (by decide)) rfl rfl (Nat.le_of_ble_eq_true rfl) dX6_octet_18 (fun H locs hP hD hS => ?_)
      have hP : va_P (dC, dI) vwCl (wM hM hR hT hZ cI m_allRows m_allColumns m_rows m_columns m_cells m_cursor m_locked m_insert m_alarms m_rejects m_latest 1 m_streamLong m_at m_place m_orders m_escaped m_broken m_signBefore m_free m_waitsLong m_cutOff m_screen m_stream m_waits) H := hP
      have hD : va_D A (wM hM hR hT hZ cI m_allRows m_allColumns m_rows m_columns m_cells m_cursor m_locked m_insert m_alarms m_rejects m_latest 1 m_streamLong m_at m_place m_orders m_escaped m_broken m_signBefore m_free m_waitsLong m_cutOff m_screen m_stream m_waits) := hD
      refine lv_aload_n hx hb dX6_octet_21 rfl (lv_at hl 0 rfl) ?_
      refine va_get (D := (dC, dI)) (ci := 7) (v := .int 1) (C := RX6) (T := TX6) (N := 25) hx hb hts uu_X6_octet_X6 hown hK hP 0 rfl rfl 12 (by decide) (hts (.fieldLink RX6 37 "BlockScreenModel" "thrown" "I") (List.mem_of_getElem? (i := 2) rfl)) (fun _ h9 => h9) rfl dX6_octet_22 ?_
      refine lv_if_eq (tgt := 32) hx hb dX6_octet_25 (by decide) (fun c_6 => ?_) (fun c_6 => ?_)
      · exact absurd c_6 (by decide)
      · refine lv_iconst (v := 0) hx hb dX6_octet_28 (by decide) ?_
        refine lv_goto (tgt := 39) hx hb dX6_octet_29 (by decide) ?_
        have hf := Option.some.inj hf
        subst hf
        exact my_retz () hx hb hr hlocks rfl hK hP hD hS rfl dX6_octet_39

theorem uu_X6_field_X6 : ∀ w ∈ u_ws RX6 TX6 25, w ∈ wsX6_field := fun _ h => List.mem_cons_of_mem _ (List.mem_append_right _ h)
def f_X6_field_L58 (m_cells : Int32) (m_screen : Nat → Int32) : Nat → Int32 → Int32 → Int32 → Int32 → Int32 → Int32 → Option (Int32 × Int32)
  | 0, _, _, _, _, _, _ => none
  | fu + 1, v2, v3, v4, v5, v6, z_m_thrown =>
    if m_cells ≤ v6 then
    if v2 = 2 then
    some (v4, z_m_thrown)
    else
    some (v5, z_m_thrown)
    else
    Option.bind (f_X6_round m_cells (v3 + v6)) (fun r_3 =>
    Option.bind (f_X6_isAttribute m_screen r_3) (fun r_4 =>
    if (b2i r_4) = 0 then
    Option.bind (f_X6_round m_cells (v3 + v6)) (fun r_7 =>
    if r_7 < 0 ∨ 5676 ≤ r_7.toNatClampNeg then none else
    if (m_screen r_7.toNatClampNeg) = 0 then
    f_X6_field_L58 m_cells m_screen fu v2 v3 (v4 + 1) v5 (v6 + 1) z_m_thrown
    else
    f_X6_field_L58 m_cells m_screen fu v2 v3 (v4 + 1) (v5 + 1) (v6 + 1) z_m_thrown)
    else
    if v2 = 2 then
    some (v4, z_m_thrown)
    else
    some (v5, z_m_thrown)))
def f_X6_field (m_cells : Int32) (m_thrown : Int32) (m_screen : Nat → Int32) (a1 : Int32) (a2 : Int32) : Option (Int32 × Int32) :=
    Option.bind (f_X6_attributeAt m_cells m_screen a1) (fun r_10 =>
    if r_10 = (-1) then
    some ((-1), 0)
    else
    if a2 < 0 then
    some ((-1), 0)
    else
    if a2 ≤ 3 then
    if a2 = 0 then
    some (r_10, 0)
    else
    if a2 = 1 then
    if r_10 < 0 ∨ 5676 ≤ r_10.toNatClampNeg then none else
    some ((m_screen r_10.toNatClampNeg) - 256, 0)
    else
    f_X6_field_L58 m_cells m_screen FU a2 r_10 0 0 1 0
    else
    some ((-1), 0))
set_option maxHeartbeats 400000 in
set_option maxRecDepth 100000 in
theorem c_X6_field (l : Launch) (dC : Nat → ClassId) (dI : Nat → Nat → Nat) (cI : ClassId) (hM hR hT hZ : Nat) (m_allRows : Int32) (m_allColumns : Int32) (m_rows : Int32) (m_columns : Int32) (m_cells : Int32) (m_cursor : Int32) (m_locked : Bool) (m_insert : Bool) (m_alarms : Int32) (m_rejects : Int32) (m_latest : Int32) (m_thrown : Int32) (m_streamLong : Int32) (m_at : Int32) (m_place : Int32) (m_orders : Int32) (m_escaped : Bool) (m_broken : Bool) (m_signBefore : Bool) (m_free : Bool) (m_waitsLong : Int32) (m_cutOff : Bool) (m_screen : Nat → Int32) (m_stream : Nat → Int32) (m_waits : Nat → Int32) (sz : Nat) (a1 : Int32) (a2 : Int32) (res : Int32 × Int32) (hf : f_X6_field m_cells m_thrown m_screen a1 a2 = some res) : Met l yX6_field wsX6_field ({ frames := 2, cells := 0, slots := 0, locals := 44 }) (va_Pc [.ref hM, .int a1, .int a2] (my_Pre (dC, dI) [(cI, .int)] (wM hM hR hT hZ cI m_allRows m_allColumns m_rows m_columns m_cells m_cursor m_locked m_insert m_alarms m_rejects m_latest m_thrown m_streamLong m_at m_place m_orders m_escaped m_broken m_signBefore m_free m_waitsLong m_cutOff m_screen m_stream m_waits) sz)) (my_Qi (S := Unit) (dC, dI) [(cI, .int)] res.1 (fun _ => wM hM hR hT hZ cI m_allRows m_allColumns m_rows m_columns m_cells m_cursor m_locked m_insert m_alarms m_rejects m_latest res.2 m_streamLong m_at m_place m_orders m_escaped m_broken m_signBefore m_free m_waitsLong m_cutOff m_screen m_stream m_waits) (va_A (wM hM hR hT hZ cI m_allRows m_allColumns m_rows m_columns m_cells m_cursor m_locked m_insert m_alarms m_rejects m_latest m_thrown m_streamLong m_at m_place m_orders m_escaped m_broken m_signBefore m_free m_waitsLong m_cutOff m_screen m_stream m_waits) sz)) 0 0 (va_A (wM hM hR hT hZ cI m_allRows m_allColumns m_rows m_columns m_cells m_cursor m_locked m_insert m_alarms m_rejects m_latest m_thrown m_streamLong m_at m_place m_orders m_escaped m_broken m_signBefore m_free m_waitsLong m_cutOff m_screen m_stream m_waits) sz) := by
  refine my_enter (cc := cX6_field) (maxL := 7) (ret := (some .int)) (Qc := my_Qi (S := Unit) (dC, dI) [(cI, .int)] res.1 (fun _ => wM hM hR hT hZ cI m_allRows m_allColumns m_rows m_columns m_cells m_cursor m_locked m_insert m_alarms m_rejects m_latest res.2 m_streamLong m_at m_place m_orders m_escaped m_broken m_signBefore m_free m_waitsLong m_cutOff m_screen m_stream m_waits)) (by decide) rfl (Nat.le_of_ble_eq_true rfl) ?_
  intro p e s m below meth c A ls hx hb hr hml hts hown hlocks hnm hP hK hD hA hS hl
  have hown : s.vm.findClass RX6 = some m.cls := hown
  have hl : lv_has ls 7 [(0, .ref hM), (1, .int a1), (2, .int a2)] := hl
  have L58 : ∀ (fu : Nat) (v2 : Int32) (v3 : Int32) (v4 : Int32) (v5 : Int32) (v6 : Int32) (z_m_thrown : Int32)  (H : Heap) (locs : List Loc), f_X6_field_L58 m_cells m_screen fu v2 v3 v4 v5 v6 z_m_thrown = some res → va_P (dC, dI) vwCl (wM hM hR hT hZ cI m_allRows m_allColumns m_rows m_columns m_cells m_cursor m_locked m_insert m_alarms m_rejects m_latest z_m_thrown m_streamLong m_at m_place m_orders m_escaped m_broken m_signBefore m_free m_waitsLong m_cutOff m_screen m_stream m_waits) H → va_D A (wM hM hR hT hZ cI m_allRows m_allColumns m_rows m_columns m_cells m_cursor m_locked m_insert m_alarms m_rejects m_latest z_m_thrown m_streamLong m_at m_place m_orders m_escaped m_broken m_signBefore m_free m_waitsLong m_cutOff m_screen m_stream m_waits) → va_S A s.heap H locs → ∀ (ls : Array Slot), lv_has ls 7 [(0, .ref hM), (2, .int v2), (3, .int v3), (4, .int v4), (5, .int v5), (6, .int v6)] → W p l e (headSpec wsX6_field ({ frames := 2, cells := 0, slots := 0, locals := 44 })).room s m ([.ref hM, .int a1, .int a2] : List Value).toArray below meth c H locs 0 0 (MQ below (my_Qi (S := Unit) (dC, dI) [(cI, .int)] res.1 (fun _ => wM hM hR hT hZ cI m_allRows m_allColumns m_rows m_columns m_cells m_cursor m_locked m_insert m_alarms m_rejects m_latest res.2 m_streamLong m_at m_place m_orders m_escaped m_broken m_signBefore m_free m_waitsLong m_cutOff m_screen m_stream m_waits) A) ([.ref hM, .int a1, .int a2] : List Value).toArray s 0 0 A) (F0 m 58 ls []) := by
    intro fu
    induction fu with
    | zero =>
      intro v2 v3 v4 v5 v6 z_m_thrown H locs hf
      rw [f_X6_field_L58.eq_1] at hf
      cases hf
    | succ fu ih =>
      intro v2 v3 v4 v5 v6 z_m_thrown H locs hf  hP hD hS ls hl
      rw [f_X6_field_L58.eq_2] at hf
      refine lv_iload hx hb dX6_field_58 (lv_at hl 5 rfl) ?_
      refine lv_aload_n hx hb dX6_field_60 rfl (lv_at hl 0 rfl) ?_
      refine va_get (D := (dC, dI)) (ci := 7) (v := .int m_cells) (C := RX6) (T := TX6) (N := 25) hx hb hts uu_X6_field_X6 hown hK hP 0 rfl rfl 4 (by decide) (hts (.fieldLink RX6 46 "BlockScreenModel" "cells" "I") (List.mem_of_getElem? (i := 3) rfl)) (fun _ h9 => h9) rfl dX6_field_61 ?_
      refine lv_icmp_ge (tgt := 110) hx hb dX6_field_64 (by decide) (fun c_1 => ?_) (fun c_1 => ?_)
      · have hf := (if_pos c_1).symm.trans hf
        refine lv_iload_n hx hb dX6_field_110 rfl (lv_at hl 1 rfl) ?_
        refine lv_iconst (v := 2) hx hb dX6_field_111 (by decide) ?_
        refine lv_icmp_ne (tgt := 120) hx hb dX6_field_112 (by decide) (fun c_2 => ?_) (fun c_2 => ?_)
        · have hf := (if_neg c_2).symm.trans hf
          refine lv_iload hx hb dX6_field_120 (lv_at hl 4 rfl) ?_
          have hf := Option.some.inj hf
          subst hf
          exact my_reti () hx hb hr hlocks hK hP hD hS rfl dX6_field_122
        · have hf := (if_pos c_2).symm.trans hf
          refine lv_iload hx hb dX6_field_115 (lv_at hl 3 rfl) ?_
          refine lv_goto (tgt := 122) hx hb dX6_field_117 (by decide) ?_
          have hf := Option.some.inj hf
          subst hf
          exact my_reti () hx hb hr hlocks hK hP hD hS rfl dX6_field_122
      · have hf := (if_neg c_1).symm.trans hf
        refine lv_aload_n hx hb dX6_field_67 rfl (lv_at hl 0 rfl) ?_
        refine lv_aload_n hx hb dX6_field_68 rfl (lv_at hl 0 rfl) ?_
        refine lv_iload_n hx hb dX6_field_69 rfl (lv_at hl 2 rfl) ?_
        refine lv_iload hx hb dX6_field_70 (lv_at hl 5 rfl) ?_
        refine lv_iadd hx hb dX6_field_72 ?_
        obtain ⟨r_3, hq_3, hf⟩ := ob_inv hf
        refine my_cVi (As := [.int (v3 + v6)]) (rest := [.ref hM]) ⟨hx, hb, hml, hown, hts⟩ (c_X6_round l dC dI cI hM hR hT hZ m_allRows m_allColumns m_rows m_columns m_cells m_cursor m_locked m_insert m_alarms m_rejects m_latest z_m_thrown m_streamLong m_at m_place m_orders m_escaped m_broken m_signBefore m_free m_waitsLong m_cutOff m_screen m_stream m_waits _ (v3 + v6) r_3 hq_3) (cwV 1 hts gX6_field_X6_round rfl rfl rfl (by decide +kernel) ⟨Nat.le_of_ble_eq_true rfl, Nat.le_of_ble_eq_true rfl⟩) hK hP hD hS hA 0 7 rfl rfl rfl hl.1 rfl (Nat.le_of_ble_eq_true rfl) dX6_field_73 ⟨Nat.zero_le _, Nat.zero_le _⟩ (fun _ H locs hP hD hS => ?_)
        have hP : va_P (dC, dI) vwCl (wM hM hR hT hZ cI m_allRows m_allColumns m_rows m_columns m_cells m_cursor m_locked m_insert m_alarms m_rejects m_latest z_m_thrown m_streamLong m_at m_place m_orders m_escaped m_broken m_signBefore m_free m_waitsLong m_cutOff m_screen m_stream m_waits) H := hP
        have hD : va_D A (wM hM hR hT hZ cI m_allRows m_allColumns m_rows m_columns m_cells m_cursor m_locked m_insert m_alarms m_rejects m_latest z_m_thrown m_streamLong m_at m_place m_orders m_escaped m_broken m_signBefore m_free m_waitsLong m_cutOff m_screen m_stream m_waits) := hD
        obtain ⟨r_4, hq_4, hf⟩ := ob_inv hf
        refine my_cVi (As := [.int r_3]) (rest := []) ⟨hx, hb, hml, hown, hts⟩ (c_X6_isAttribute l dC dI cI hM hR hT hZ m_allRows m_allColumns m_rows m_columns m_cells m_cursor m_locked m_insert m_alarms m_rejects m_latest z_m_thrown m_streamLong m_at m_place m_orders m_escaped m_broken m_signBefore m_free m_waitsLong m_cutOff m_screen m_stream m_waits _ r_3 r_4 hq_4) (cwV 1 hts gX6_field_X6_isAttribute rfl rfl rfl (by decide +kernel) ⟨Nat.le_of_ble_eq_true rfl, Nat.le_of_ble_eq_true rfl⟩) hK hP hD hS hA 0 7 rfl rfl rfl hl.1 rfl (Nat.le_of_ble_eq_true rfl) dX6_field_76 ⟨Nat.zero_le _, Nat.zero_le _⟩ (fun _ H locs hP hD hS => ?_)
        have hP : va_P (dC, dI) vwCl (wM hM hR hT hZ cI m_allRows m_allColumns m_rows m_columns m_cells m_cursor m_locked m_insert m_alarms m_rejects m_latest z_m_thrown m_streamLong m_at m_place m_orders m_escaped m_broken m_signBefore m_free m_waitsLong m_cutOff m_screen m_stream m_waits) H := hP
        have hD : va_D A (wM hM hR hT hZ cI m_allRows m_allColumns m_rows m_columns m_cells m_cursor m_locked m_insert m_alarms m_rejects m_latest z_m_thrown m_streamLong m_at m_place m_orders m_escaped m_broken m_signBefore m_free m_waitsLong m_cutOff m_screen m_stream m_waits) := hD
        refine lv_if_ne (tgt := 110) hx hb dX6_field_79 (by decide) (fun c_5 => ?_) (fun c_5 => ?_)
        · have hf := (if_neg c_5).symm.trans hf
          refine lv_iload_n hx hb dX6_field_110 rfl (lv_at hl 1 rfl) ?_
          refine lv_iconst (v := 2) hx hb dX6_field_111 (by decide) ?_
          refine lv_icmp_ne (tgt := 120) hx hb dX6_field_112 (by decide) (fun c_6 => ?_) (fun c_6 => ?_)
          · have hf := (if_neg c_6).symm.trans hf
            refine lv_iload hx hb dX6_field_120 (lv_at hl 4 rfl) ?_
            have hf := Option.some.inj hf
            subst hf
            exact my_reti () hx hb hr hlocks hK hP hD hS rfl dX6_field_122
          · have hf := (if_pos c_6).symm.trans hf
            refine lv_iload hx hb dX6_field_115 (lv_at hl 3 rfl) ?_
            refine lv_goto (tgt := 122) hx hb dX6_field_117 (by decide) ?_
            have hf := Option.some.inj hf
            subst hf
            exact my_reti () hx hb hr hlocks hK hP hD hS rfl dX6_field_122
        · have hf := (if_pos c_5).symm.trans hf
          refine lv_iinc (v := v4 + 1) (lv' := [(4, .int (v4 + 1)), (0, .ref hM), (2, .int v2), (3, .int v3), (5, .int v5), (6, .int v6)]) hx hb dX6_field_82 hl (k := 3) rfl rfl (by decide) rfl (fun ls hl => ?_)
          refine lv_aload_n hx hb dX6_field_85 rfl (lv_at hl 1 rfl) ?_
          refine va_get (D := (dC, dI)) (ci := 7) (v := .ref hR) (C := RX6) (T := TX6) (N := 25) hx hb hts uu_X6_field_X6 hown hK hP 0 rfl rfl 6 (by decide) (hts (.fieldLink RX6 7 "BlockScreenModel" "screen" "[I") (List.mem_of_getElem? (i := 2) rfl)) (fun _ h9 => h9) rfl dX6_field_86 ?_
          refine lv_aload_n hx hb dX6_field_89 rfl (lv_at hl 1 rfl) ?_
          refine lv_iload_n hx hb dX6_field_90 rfl (lv_at hl 3 rfl) ?_
          refine lv_iload hx hb dX6_field_91 (lv_at hl 5 rfl) ?_
          refine lv_iadd hx hb dX6_field_93 ?_
          obtain ⟨r_7, hq_7, hf⟩ := ob_inv hf
          refine my_cVi (As := [.int (v3 + v6)]) (rest := [.ref hR]) ⟨hx, hb, hml, hown, hts⟩ (c_X6_round l dC dI cI hM hR hT hZ m_allRows m_allColumns m_rows m_columns m_cells m_cursor m_locked m_insert m_alarms m_rejects m_latest z_m_thrown m_streamLong m_at m_place m_orders m_escaped m_broken m_signBefore m_free m_waitsLong m_cutOff m_screen m_stream m_waits _ (v3 + v6) r_7 hq_7) (cwV 1 hts gX6_field_X6_round rfl rfl rfl (by decide +kernel) ⟨Nat.le_of_ble_eq_true rfl, Nat.le_of_ble_eq_true rfl⟩) hK hP hD hS hA 0 7 rfl rfl rfl hl.1 rfl (Nat.le_of_ble_eq_true rfl) dX6_field_94 ⟨Nat.zero_le _, Nat.zero_le _⟩ (fun _ H locs hP hD hS => ?_)
          have hP : va_P (dC, dI) vwCl (wM hM hR hT hZ cI m_allRows m_allColumns m_rows m_columns m_cells m_cursor m_locked m_insert m_alarms m_rejects m_latest z_m_thrown m_streamLong m_at m_place m_orders m_escaped m_broken m_signBefore m_free m_waitsLong m_cutOff m_screen m_stream m_waits) H := hP
          have hD : va_D A (wM hM hR hT hZ cI m_allRows m_allColumns m_rows m_columns m_cells m_cursor m_locked m_insert m_alarms m_rejects m_latest z_m_thrown m_streamLong m_at m_place m_orders m_escaped m_broken m_signBefore m_free m_waitsLong m_cutOff m_screen m_stream m_waits) := hD
          rcases Classical.em (r_7 < 0 ∨ 5676 ≤ r_7.toNatClampNeg) with c_8 | c_8
          · exact nn_abs ((if_pos c_8).symm.trans hf)
          have hf := (if_neg c_8).symm.trans hf
          refine va_iald hx hb hK hP 1 0 rfl rfl c_8 dX6_field_97 ?_
          refine lv_if_eq (tgt := 104) hx hb dX6_field_98 (by decide) (fun c_9 => ?_) (fun c_9 => ?_)
          · have hf := (if_pos c_9).symm.trans hf
            refine lv_iinc (v := v6 + 1) (lv' := [(6, .int (v6 + 1)), (4, .int (v4 + 1)), (0, .ref hM), (2, .int v2), (3, .int v3), (5, .int v5)]) hx hb dX6_field_104 hl (k := 5) rfl rfl (by decide) rfl (fun ls hl => ?_)
            refine lv_goto (tgt := 58) hx hb dX6_field_107 (by decide) ?_
            exact ih v2 v3 (v4 + 1) v5 (v6 + 1) z_m_thrown _ _ hf  hP hD hS ls (lv_sub hl [2, 3, 4, 1, 5, 0] rfl)
          · have hf := (if_neg c_9).symm.trans hf
            refine lv_iinc (v := v5 + 1) (lv' := [(5, .int (v5 + 1)), (4, .int (v4 + 1)), (0, .ref hM), (2, .int v2), (3, .int v3), (6, .int v6)]) hx hb dX6_field_101 hl (k := 4) rfl rfl (by decide) rfl (fun ls hl => ?_)
            refine lv_iinc (v := v6 + 1) (lv' := [(6, .int (v6 + 1)), (5, .int (v5 + 1)), (4, .int (v4 + 1)), (0, .ref hM), (2, .int v2), (3, .int v3)]) hx hb dX6_field_104 hl (k := 5) rfl rfl (by decide) rfl (fun ls hl => ?_)
            refine lv_goto (tgt := 58) hx hb dX6_field_107 (by decide) ?_
            exact ih v2 v3 (v4 + 1) (v5 + 1) (v6 + 1) z_m_thrown _ _ hf  hP hD hS ls (lv_sub hl [3, 4, 5, 2, 1, 0] rfl)
  unfold f_X6_field at hf
  refine lv_aload_n hx hb dX6_field_0 rfl (lv_at hl 0 rfl) ?_
  refine lv_iconst (v := 0) hx hb dX6_field_1 (by decide) ?_
  refine va_put (D := (dC, dI)) (ci := 7) (v := .int 0) (C := RX6) (T := TX6) (N := 25) hx hb hts uu_X6_field_X6 tyX6 tyX6_ok nmX6 hown hK hP hD hS 0 rfl rfl 12 (by decide) (hts (.fieldLink RX6 37 "BlockScreenModel" "thrown" "I") (List.mem_of_getElem? (i := 1) rfl)) (fun _ h9 => h9) rfl (tyX6_ok 12 (by decide)) rfl rfl (Nat.le_of_ble_eq_true rfl) dX6_field_2 (fun H locs hP hD hS => ?_)
  have hP : va_P (dC, dI) vwCl (wM hM hR hT hZ cI m_allRows m_allColumns m_rows m_columns m_cells m_cursor m_locked m_insert m_alarms m_rejects m_latest 0 m_streamLong m_at m_place m_orders m_escaped m_broken m_signBefore m_free m_waitsLong m_cutOff m_screen m_stream m_waits) H := hP
  have hD : va_D A (wM hM hR hT hZ cI m_allRows m_allColumns m_rows m_columns m_cells m_cursor m_locked m_insert m_alarms m_rejects m_latest 0 m_streamLong m_at m_place m_orders m_escaped m_broken m_signBefore m_free m_waitsLong m_cutOff m_screen m_stream m_waits) := hD
  refine lv_aload_n hx hb dX6_field_5 rfl (lv_at hl 0 rfl) ?_
  refine lv_iload_n hx hb dX6_field_6 rfl (lv_at hl 1 rfl) ?_
  obtain ⟨r_10, hq_10, hf⟩ := ob_inv hf
  refine my_cVi (As := [.int a1]) (rest := []) ⟨hx, hb, hml, hown, hts⟩ (c_X6_attributeAt l dC dI cI hM hR hT hZ m_allRows m_allColumns m_rows m_columns m_cells m_cursor m_locked m_insert m_alarms m_rejects m_latest 0 m_streamLong m_at m_place m_orders m_escaped m_broken m_signBefore m_free m_waitsLong m_cutOff m_screen m_stream m_waits _ a1 r_10 hq_10) (cwV 1 hts gX6_field_X6_attributeAt rfl rfl rfl (by decide +kernel) ⟨Nat.le_of_ble_eq_true rfl, Nat.le_of_ble_eq_true rfl⟩) hK hP hD hS hA 0 7 rfl rfl rfl hl.1 rfl (Nat.le_of_ble_eq_true rfl) dX6_field_7 ⟨Nat.zero_le _, Nat.zero_le _⟩ (fun _ H locs hP hD hS => ?_)
  have hP : va_P (dC, dI) vwCl (wM hM hR hT hZ cI m_allRows m_allColumns m_rows m_columns m_cells m_cursor m_locked m_insert m_alarms m_rejects m_latest 0 m_streamLong m_at m_place m_orders m_escaped m_broken m_signBefore m_free m_waitsLong m_cutOff m_screen m_stream m_waits) H := hP
  have hD : va_D A (wM hM hR hT hZ cI m_allRows m_allColumns m_rows m_columns m_cells m_cursor m_locked m_insert m_alarms m_rejects m_latest 0 m_streamLong m_at m_place m_orders m_escaped m_broken m_signBefore m_free m_waitsLong m_cutOff m_screen m_stream m_waits) := hD
  refine lv_istore_n (lv' := [(3, .int r_10), (0, .ref hM), (1, .int a1), (2, .int a2)]) hx hb dX6_field_10 rfl hl (by decide) rfl (fun ls hl => ?_)
  refine lv_iload_n hx hb dX6_field_11 rfl (lv_at hl 0 rfl) ?_
  refine lv_iconst (v := (-1)) hx hb dX6_field_12 (by decide) ?_
  refine lv_icmp_eq (tgt := 25) hx hb dX6_field_13 (by decide) (fun c_11 => ?_) (fun c_11 => ?_)
  · have hf := (if_pos c_11).symm.trans hf
    refine lv_iconst (v := (-1)) hx hb dX6_field_25 (by decide) ?_
    have hf := Option.some.inj hf
    subst hf
    exact my_reti () hx hb hr hlocks hK hP hD hS rfl dX6_field_26
  · have hf := (if_neg c_11).symm.trans hf
    refine lv_iload_n hx hb dX6_field_16 rfl (lv_at hl 3 rfl) ?_
    refine lv_if_lt (tgt := 25) hx hb dX6_field_17 (by decide) (fun c_12 => ?_) (fun c_12 => ?_)
    · have hf := (if_pos c_12).symm.trans hf
      refine lv_iconst (v := (-1)) hx hb dX6_field_25 (by decide) ?_
      have hf := Option.some.inj hf
      subst hf
      exact my_reti () hx hb hr hlocks hK hP hD hS rfl dX6_field_26
    · have hf := (if_neg c_12).symm.trans hf
      refine lv_iload_n hx hb dX6_field_20 rfl (lv_at hl 3 rfl) ?_
      refine lv_iconst (v := 3) hx hb dX6_field_21 (by decide) ?_
      refine lv_icmp_le (tgt := 27) hx hb dX6_field_22 (by decide) (fun c_13 => ?_) (fun c_13 => ?_)
      · have hf := (if_pos c_13).symm.trans hf
        refine lv_iload_n hx hb dX6_field_27 rfl (lv_at hl 3 rfl) ?_
        refine lv_if_ne (tgt := 33) hx hb dX6_field_28 (by decide) (fun c_14 => ?_) (fun c_14 => ?_)
        · have hf := (if_neg c_14).symm.trans hf
          refine lv_iload_n hx hb dX6_field_33 rfl (lv_at hl 3 rfl) ?_
          refine lv_iconst (v := 1) hx hb dX6_field_34 (by decide) ?_
          refine lv_icmp_ne (tgt := 49) hx hb dX6_field_35 (by decide) (fun c_15 => ?_) (fun c_15 => ?_)
          · have hf := (if_neg c_15).symm.trans hf
            refine lv_iconst (v := 0) hx hb dX6_field_49 (by decide) ?_
            refine lv_istore (lv' := [(4, .int 0), (3, .int r_10), (0, .ref hM), (1, .int a1), (2, .int a2)]) hx hb dX6_field_50 hl (by decide) rfl (fun ls hl => ?_)
            refine lv_iconst (v := 0) hx hb dX6_field_52 (by decide) ?_
            refine lv_istore (lv' := [(5, .int 0), (4, .int 0), (3, .int r_10), (0, .ref hM), (1, .int a1), (2, .int a2)]) hx hb dX6_field_53 hl (by decide) rfl (fun ls hl => ?_)
            refine lv_iconst (v := 1) hx hb dX6_field_55 (by decide) ?_
            refine lv_istore (lv' := [(6, .int 1), (5, .int 0), (4, .int 0), (3, .int r_10), (0, .ref hM), (1, .int a1), (2, .int a2)]) hx hb dX6_field_56 hl (by decide) rfl (fun ls hl => ?_)
            exact L58 FU a2 r_10 0 0 1 0 _ _ hf  hP hD hS ls (lv_sub hl [4, 6, 3, 2, 1, 0] rfl)
          · have hf := (if_pos c_15).symm.trans hf
            refine lv_aload_n hx hb dX6_field_38 rfl (lv_at hl 1 rfl) ?_
            refine va_get (D := (dC, dI)) (ci := 7) (v := .ref hR) (C := RX6) (T := TX6) (N := 25) hx hb hts uu_X6_field_X6 hown hK hP 0 rfl rfl 6 (by decide) (hts (.fieldLink RX6 7 "BlockScreenModel" "screen" "[I") (List.mem_of_getElem? (i := 2) rfl)) (fun _ h9 => h9) rfl dX6_field_39 ?_
            refine lv_iload_n hx hb dX6_field_42 rfl (lv_at hl 0 rfl) ?_
            rcases Classical.em (r_10 < 0 ∨ 5676 ≤ r_10.toNatClampNeg) with c_16 | c_16
            · exact nn_abs ((if_pos c_16).symm.trans hf)
            have hf := (if_neg c_16).symm.trans hf
            refine va_iald hx hb hK hP 1 0 rfl rfl c_16 dX6_field_43 ?_
            refine lv_sipush (v := 256) hx hb dX6_field_44 (by decide) ?_
            refine lv_isub hx hb dX6_field_47 ?_
            have hf := Option.some.inj hf
            subst hf
            exact my_reti () hx hb hr hlocks hK hP hD hS rfl dX6_field_48
        · have hf := (if_pos c_14).symm.trans hf
          refine lv_iload_n hx hb dX6_field_31 rfl (lv_at hl 0 rfl) ?_
          have hf := Option.some.inj hf
          subst hf
          exact my_reti () hx hb hr hlocks hK hP hD hS rfl dX6_field_32
      · have hf := (if_neg c_13).symm.trans hf
        refine lv_iconst (v := (-1)) hx hb dX6_field_25 (by decide) ?_
        have hf := Option.some.inj hf
        subst hf
        exact my_reti () hx hb hr hlocks hK hP hD hS rfl dX6_field_26

theorem uu_X6_cursor_X6 : ∀ w ∈ u_ws RX6 TX6 25, w ∈ wsX6_cursor := fun _ h => List.mem_cons_of_mem _ (List.mem_append_right _ h)
def f_X6_cursor (m_cursor : Int32) (m_thrown : Int32) : Int32 × Int32 :=
    (m_cursor, 0)
set_option maxHeartbeats 400000 in
set_option maxRecDepth 100000 in
theorem c_X6_cursor (l : Launch) (dC : Nat → ClassId) (dI : Nat → Nat → Nat) (cI : ClassId) (hM hR hT hZ : Nat) (m_allRows : Int32) (m_allColumns : Int32) (m_rows : Int32) (m_columns : Int32) (m_cells : Int32) (m_cursor : Int32) (m_locked : Bool) (m_insert : Bool) (m_alarms : Int32) (m_rejects : Int32) (m_latest : Int32) (m_thrown : Int32) (m_streamLong : Int32) (m_at : Int32) (m_place : Int32) (m_orders : Int32) (m_escaped : Bool) (m_broken : Bool) (m_signBefore : Bool) (m_free : Bool) (m_waitsLong : Int32) (m_cutOff : Bool) (m_screen : Nat → Int32) (m_stream : Nat → Int32) (m_waits : Nat → Int32) (sz : Nat)  (res : Int32 × Int32) (hf : f_X6_cursor m_cursor m_thrown = res) : Met l yX6_cursor wsX6_cursor ({ frames := 0, cells := 0, slots := 0, locals := 0 }) (va_Pc [.ref hM] (my_Pre (dC, dI) [(cI, .int)] (wM hM hR hT hZ cI m_allRows m_allColumns m_rows m_columns m_cells m_cursor m_locked m_insert m_alarms m_rejects m_latest m_thrown m_streamLong m_at m_place m_orders m_escaped m_broken m_signBefore m_free m_waitsLong m_cutOff m_screen m_stream m_waits) sz)) (my_Qi (S := Unit) (dC, dI) [(cI, .int)] res.1 (fun _ => wM hM hR hT hZ cI m_allRows m_allColumns m_rows m_columns m_cells m_cursor m_locked m_insert m_alarms m_rejects m_latest res.2 m_streamLong m_at m_place m_orders m_escaped m_broken m_signBefore m_free m_waitsLong m_cutOff m_screen m_stream m_waits) (va_A (wM hM hR hT hZ cI m_allRows m_allColumns m_rows m_columns m_cells m_cursor m_locked m_insert m_alarms m_rejects m_latest m_thrown m_streamLong m_at m_place m_orders m_escaped m_broken m_signBefore m_free m_waitsLong m_cutOff m_screen m_stream m_waits) sz)) 0 0 (va_A (wM hM hR hT hZ cI m_allRows m_allColumns m_rows m_columns m_cells m_cursor m_locked m_insert m_alarms m_rejects m_latest m_thrown m_streamLong m_at m_place m_orders m_escaped m_broken m_signBefore m_free m_waitsLong m_cutOff m_screen m_stream m_waits) sz) := by
  refine my_enter (cc := cX6_cursor) (maxL := 1) (ret := (some .int)) (Qc := my_Qi (S := Unit) (dC, dI) [(cI, .int)] res.1 (fun _ => wM hM hR hT hZ cI m_allRows m_allColumns m_rows m_columns m_cells m_cursor m_locked m_insert m_alarms m_rejects m_latest res.2 m_streamLong m_at m_place m_orders m_escaped m_broken m_signBefore m_free m_waitsLong m_cutOff m_screen m_stream m_waits)) (by decide) rfl (Nat.le_of_ble_eq_true rfl) ?_
  intro p e s m below meth c A ls hx hb hr hml hts hown hlocks hnm hP hK hD hA hS hl
  have hown : s.vm.findClass RX6 = some m.cls := hown
  have hl : lv_has ls 1 [(0, .ref hM)] := hl
  unfold f_X6_cursor at hf
  refine lv_aload_n hx hb dX6_cursor_0 rfl (lv_at hl 0 rfl) ?_
  refine lv_iconst (v := 0) hx hb dX6_cursor_1 (by decide) ?_
  refine va_put (D := (dC, dI)) (ci := 7) (v := .int 0) (C := RX6) (T := TX6) (N := 25) hx hb hts uu_X6_cursor_X6 tyX6 tyX6_ok nmX6 hown hK hP hD hS 0 rfl rfl 12 (by decide) (hts (.fieldLink RX6 37 "BlockScreenModel" "thrown" "I") (List.mem_of_getElem? (i := 1) rfl)) (fun _ h9 => h9) rfl (tyX6_ok 12 (by decide)) rfl rfl (Nat.le_of_ble_eq_true rfl) dX6_cursor_2 (fun H locs hP hD hS => ?_)
  have hP : va_P (dC, dI) vwCl (wM hM hR hT hZ cI m_allRows m_allColumns m_rows m_columns m_cells m_cursor m_locked m_insert m_alarms m_rejects m_latest 0 m_streamLong m_at m_place m_orders m_escaped m_broken m_signBefore m_free m_waitsLong m_cutOff m_screen m_stream m_waits) H := hP
  have hD : va_D A (wM hM hR hT hZ cI m_allRows m_allColumns m_rows m_columns m_cells m_cursor m_locked m_insert m_alarms m_rejects m_latest 0 m_streamLong m_at m_place m_orders m_escaped m_broken m_signBefore m_free m_waitsLong m_cutOff m_screen m_stream m_waits) := hD
  refine lv_aload_n hx hb dX6_cursor_5 rfl (lv_at hl 0 rfl) ?_
  refine va_get (D := (dC, dI)) (ci := 7) (v := .int m_cursor) (C := RX6) (T := TX6) (N := 25) hx hb hts uu_X6_cursor_X6 hown hK hP 0 rfl rfl 5 (by decide) (hts (.fieldLink RX6 49 "BlockScreenModel" "cursor" "I") (List.mem_of_getElem? (i := 2) rfl)) (fun _ h9 => h9) rfl dX6_cursor_6 ?_
  subst hf
  exact my_reti () hx hb hr hlocks hK hP hD hS rfl dX6_cursor_9

theorem uu_X6_locked_X6 : ∀ w ∈ u_ws RX6 TX6 25, w ∈ wsX6_locked := fun _ h => List.mem_cons_of_mem _ (List.mem_append_right _ h)
def f_X6_locked (m_locked : Bool) (m_thrown : Int32) : Bool × Int32 :=
    (m_locked, 0)
set_option maxHeartbeats 400000 in
set_option maxRecDepth 100000 in
theorem c_X6_locked (l : Launch) (dC : Nat → ClassId) (dI : Nat → Nat → Nat) (cI : ClassId) (hM hR hT hZ : Nat) (m_allRows : Int32) (m_allColumns : Int32) (m_rows : Int32) (m_columns : Int32) (m_cells : Int32) (m_cursor : Int32) (m_locked : Bool) (m_insert : Bool) (m_alarms : Int32) (m_rejects : Int32) (m_latest : Int32) (m_thrown : Int32) (m_streamLong : Int32) (m_at : Int32) (m_place : Int32) (m_orders : Int32) (m_escaped : Bool) (m_broken : Bool) (m_signBefore : Bool) (m_free : Bool) (m_waitsLong : Int32) (m_cutOff : Bool) (m_screen : Nat → Int32) (m_stream : Nat → Int32) (m_waits : Nat → Int32) (sz : Nat)  (res : Bool × Int32) (hf : f_X6_locked m_locked m_thrown = res) : Met l yX6_locked wsX6_locked ({ frames := 0, cells := 0, slots := 0, locals := 0 }) (va_Pc [.ref hM] (my_Pre (dC, dI) [(cI, .int)] (wM hM hR hT hZ cI m_allRows m_allColumns m_rows m_columns m_cells m_cursor m_locked m_insert m_alarms m_rejects m_latest m_thrown m_streamLong m_at m_place m_orders m_escaped m_broken m_signBefore m_free m_waitsLong m_cutOff m_screen m_stream m_waits) sz)) (my_Qi (S := Unit) (dC, dI) [(cI, .int)] (b2i res.1) (fun _ => wM hM hR hT hZ cI m_allRows m_allColumns m_rows m_columns m_cells m_cursor m_locked m_insert m_alarms m_rejects m_latest res.2 m_streamLong m_at m_place m_orders m_escaped m_broken m_signBefore m_free m_waitsLong m_cutOff m_screen m_stream m_waits) (va_A (wM hM hR hT hZ cI m_allRows m_allColumns m_rows m_columns m_cells m_cursor m_locked m_insert m_alarms m_rejects m_latest m_thrown m_streamLong m_at m_place m_orders m_escaped m_broken m_signBefore m_free m_waitsLong m_cutOff m_screen m_stream m_waits) sz)) 0 0 (va_A (wM hM hR hT hZ cI m_allRows m_allColumns m_rows m_columns m_cells m_cursor m_locked m_insert m_alarms m_rejects m_latest m_thrown m_streamLong m_at m_place m_orders m_escaped m_broken m_signBefore m_free m_waitsLong m_cutOff m_screen m_stream m_waits) sz) := by
  refine my_enter (cc := cX6_locked) (maxL := 1) (ret := (some .boolean)) (Qc := my_Qi (S := Unit) (dC, dI) [(cI, .int)] (b2i res.1) (fun _ => wM hM hR hT hZ cI m_allRows m_allColumns m_rows m_columns m_cells m_cursor m_locked m_insert m_alarms m_rejects m_latest res.2 m_streamLong m_at m_place m_orders m_escaped m_broken m_signBefore m_free m_waitsLong m_cutOff m_screen m_stream m_waits)) (by decide) rfl (Nat.le_of_ble_eq_true rfl) ?_
  intro p e s m below meth c A ls hx hb hr hml hts hown hlocks hnm hP hK hD hA hS hl
  have hown : s.vm.findClass RX6 = some m.cls := hown
  have hl : lv_has ls 1 [(0, .ref hM)] := hl
  unfold f_X6_locked at hf
  refine lv_aload_n hx hb dX6_locked_0 rfl (lv_at hl 0 rfl) ?_
  refine lv_iconst (v := 0) hx hb dX6_locked_1 (by decide) ?_
  refine va_put (D := (dC, dI)) (ci := 7) (v := .int 0) (C := RX6) (T := TX6) (N := 25) hx hb hts uu_X6_locked_X6 tyX6 tyX6_ok nmX6 hown hK hP hD hS 0 rfl rfl 12 (by decide) (hts (.fieldLink RX6 37 "BlockScreenModel" "thrown" "I") (List.mem_of_getElem? (i := 1) rfl)) (fun _ h9 => h9) rfl (tyX6_ok 12 (by decide)) rfl rfl (Nat.le_of_ble_eq_true rfl) dX6_locked_2 (fun H locs hP hD hS => ?_)
  have hP : va_P (dC, dI) vwCl (wM hM hR hT hZ cI m_allRows m_allColumns m_rows m_columns m_cells m_cursor m_locked m_insert m_alarms m_rejects m_latest 0 m_streamLong m_at m_place m_orders m_escaped m_broken m_signBefore m_free m_waitsLong m_cutOff m_screen m_stream m_waits) H := hP
  have hD : va_D A (wM hM hR hT hZ cI m_allRows m_allColumns m_rows m_columns m_cells m_cursor m_locked m_insert m_alarms m_rejects m_latest 0 m_streamLong m_at m_place m_orders m_escaped m_broken m_signBefore m_free m_waitsLong m_cutOff m_screen m_stream m_waits) := hD
  refine lv_aload_n hx hb dX6_locked_5 rfl (lv_at hl 0 rfl) ?_
  refine va_get (D := (dC, dI)) (ci := 7) (v := .int (b2i m_locked)) (C := RX6) (T := TX6) (N := 25) hx hb hts uu_X6_locked_X6 hown hK hP 0 rfl rfl 7 (by decide) (hts (.fieldLink RX6 13 "BlockScreenModel" "locked" "Z") (List.mem_of_getElem? (i := 2) rfl)) (fun _ h9 => h9) rfl dX6_locked_6 ?_
  subst hf
  exact my_retz () hx hb hr hlocks (b2i_nar _) hK hP hD hS rfl dX6_locked_9

theorem uu_X6_modified_X6 : ∀ w ∈ u_ws RX6 TX6 25, w ∈ wsX6_modified := fun _ h => List.mem_cons_of_mem _ (List.mem_append_right _ h)
def f_X6_modified (m_cells : Int32) (m_thrown : Int32) (m_screen : Nat → Int32) (a1 : Int32) : Option (Bool × Int32) :=
    Option.bind (f_X6_attributeAt m_cells m_screen a1) (fun r_1 =>
    if r_1 = (-1) then
    some (false, 0)
    else
    if r_1 < 0 ∨ 5676 ≤ r_1.toNatClampNeg then none else
    if ((m_screen r_1.toNatClampNeg) &&& 1) = 0 then
    some (false, 0)
    else
    some (true, 0))
set_option maxHeartbeats 400000 in
set_option maxRecDepth 100000 in
theorem c_X6_modified (l : Launch) (dC : Nat → ClassId) (dI : Nat → Nat → Nat) (cI : ClassId) (hM hR hT hZ : Nat) (m_allRows : Int32) (m_allColumns : Int32) (m_rows : Int32) (m_columns : Int32) (m_cells : Int32) (m_cursor : Int32) (m_locked : Bool) (m_insert : Bool) (m_alarms : Int32) (m_rejects : Int32) (m_latest : Int32) (m_thrown : Int32) (m_streamLong : Int32) (m_at : Int32) (m_place : Int32) (m_orders : Int32) (m_escaped : Bool) (m_broken : Bool) (m_signBefore : Bool) (m_free : Bool) (m_waitsLong : Int32) (m_cutOff : Bool) (m_screen : Nat → Int32) (m_stream : Nat → Int32) (m_waits : Nat → Int32) (sz : Nat) (a1 : Int32) (res : Bool × Int32) (hf : f_X6_modified m_cells m_thrown m_screen a1 = some res) : Met l yX6_modified wsX6_modified ({ frames := 2, cells := 0, slots := 0, locals := 44 }) (va_Pc [.ref hM, .int a1] (my_Pre (dC, dI) [(cI, .int)] (wM hM hR hT hZ cI m_allRows m_allColumns m_rows m_columns m_cells m_cursor m_locked m_insert m_alarms m_rejects m_latest m_thrown m_streamLong m_at m_place m_orders m_escaped m_broken m_signBefore m_free m_waitsLong m_cutOff m_screen m_stream m_waits) sz)) (my_Qi (S := Unit) (dC, dI) [(cI, .int)] (b2i res.1) (fun _ => wM hM hR hT hZ cI m_allRows m_allColumns m_rows m_columns m_cells m_cursor m_locked m_insert m_alarms m_rejects m_latest res.2 m_streamLong m_at m_place m_orders m_escaped m_broken m_signBefore m_free m_waitsLong m_cutOff m_screen m_stream m_waits) (va_A (wM hM hR hT hZ cI m_allRows m_allColumns m_rows m_columns m_cells m_cursor m_locked m_insert m_alarms m_rejects m_latest m_thrown m_streamLong m_at m_place m_orders m_escaped m_broken m_signBefore m_free m_waitsLong m_cutOff m_screen m_stream m_waits) sz)) 0 0 (va_A (wM hM hR hT hZ cI m_allRows m_allColumns m_rows m_columns m_cells m_cursor m_locked m_insert m_alarms m_rejects m_latest m_thrown m_streamLong m_at m_place m_orders m_escaped m_broken m_signBefore m_free m_waitsLong m_cutOff m_screen m_stream m_waits) sz) := by
  refine my_enter (cc := cX6_modified) (maxL := 3) (ret := (some .boolean)) (Qc := my_Qi (S := Unit) (dC, dI) [(cI, .int)] (b2i res.1) (fun _ => wM hM hR hT hZ cI m_allRows m_allColumns m_rows m_columns m_cells m_cursor m_locked m_insert m_alarms m_rejects m_latest res.2 m_streamLong m_at m_place m_orders m_escaped m_broken m_signBefore m_free m_waitsLong m_cutOff m_screen m_stream m_waits)) (by decide) rfl (Nat.le_of_ble_eq_true rfl) ?_
  intro p e s m below meth c A ls hx hb hr hml hts hown hlocks hnm hP hK hD hA hS hl
  have hown : s.vm.findClass RX6 = some m.cls := hown
  have hl : lv_has ls 3 [(0, .ref hM), (1, .int a1)] := hl
  unfold f_X6_modified at hf
  refine lv_aload_n hx hb dX6_modified_0 rfl (lv_at hl 0 rfl) ?_
  refine lv_iconst (v := 0) hx hb dX6_modified_1 (by decide) ?_
  refine va_put (D := (dC, dI)) (ci := 7) (v := .int 0) (C := RX6) (T := TX6) (N := 25) hx hb hts uu_X6_modified_X6 tyX6 tyX6_ok nmX6 hown hK hP hD hS 0 rfl rfl 12 (by decide) (hts (.fieldLink RX6 37 "BlockScreenModel" "thrown" "I") (List.mem_of_getElem? (i := 1) rfl)) (fun _ h9 => h9) rfl (tyX6_ok 12 (by decide)) rfl rfl (Nat.le_of_ble_eq_true rfl) dX6_modified_2 (fun H locs hP hD hS => ?_)
  have hP : va_P (dC, dI) vwCl (wM hM hR hT hZ cI m_allRows m_allColumns m_rows m_columns m_cells m_cursor m_locked m_insert m_alarms m_rejects m_latest 0 m_streamLong m_at m_place m_orders m_escaped m_broken m_signBefore m_free m_waitsLong m_cutOff m_screen m_stream m_waits) H := hP
  have hD : va_D A (wM hM hR hT hZ cI m_allRows m_allColumns m_rows m_columns m_cells m_cursor m_locked m_insert m_alarms m_rejects m_latest 0 m_streamLong m_at m_place m_orders m_escaped m_broken m_signBefore m_free m_waitsLong m_cutOff m_screen m_stream m_waits) := hD
  refine lv_aload_n hx hb dX6_modified_5 rfl (lv_at hl 0 rfl) ?_
  refine lv_iload_n hx hb dX6_modified_6 rfl (lv_at hl 1 rfl) ?_
  obtain ⟨r_1, hq_1, hf⟩ := ob_inv hf
  refine my_cVi (As := [.int a1]) (rest := []) ⟨hx, hb, hml, hown, hts⟩ (c_X6_attributeAt l dC dI cI hM hR hT hZ m_allRows m_allColumns m_rows m_columns m_cells m_cursor m_locked m_insert m_alarms m_rejects m_latest 0 m_streamLong m_at m_place m_orders m_escaped m_broken m_signBefore m_free m_waitsLong m_cutOff m_screen m_stream m_waits _ a1 r_1 hq_1) (cwV 1 hts gX6_modified_X6_attributeAt rfl rfl rfl (by decide +kernel) ⟨Nat.le_of_ble_eq_true rfl, Nat.le_of_ble_eq_true rfl⟩) hK hP hD hS hA 0 7 rfl rfl rfl hl.1 rfl (Nat.le_of_ble_eq_true rfl) dX6_modified_7 ⟨Nat.zero_le _, Nat.zero_le _⟩ (fun _ H locs hP hD hS => ?_)
  have hP : va_P (dC, dI) vwCl (wM hM hR hT hZ cI m_allRows m_allColumns m_rows m_columns m_cells m_cursor m_locked m_insert m_alarms m_rejects m_latest 0 m_streamLong m_at m_place m_orders m_escaped m_broken m_signBefore m_free m_waitsLong m_cutOff m_screen m_stream m_waits) H := hP
  have hD : va_D A (wM hM hR hT hZ cI m_allRows m_allColumns m_rows m_columns m_cells m_cursor m_locked m_insert m_alarms m_rejects m_latest 0 m_streamLong m_at m_place m_orders m_escaped m_broken m_signBefore m_free m_waitsLong m_cutOff m_screen m_stream m_waits) := hD
  refine lv_istore_n (lv' := [(2, .int r_1), (0, .ref hM), (1, .int a1)]) hx hb dX6_modified_10 rfl hl (by decide) rfl (fun ls hl => ?_)
  refine lv_iload_n hx hb dX6_modified_11 rfl (lv_at hl 0 rfl) ?_
  refine lv_iconst (v := (-1)) hx hb dX6_modified_12 (by decide) ?_
  refine lv_icmp_eq (tgt := 31) hx hb dX6_modified_13 (by decide) (fun c_2 => ?_) (fun c_2 => ?_)
  · have hf := (if_pos c_2).symm.trans hf
    refine lv_iconst (v := 0) hx hb dX6_modified_31 (by decide) ?_
    have hf := Option.some.inj hf
    subst hf
    exact my_retz () hx hb hr hlocks rfl hK hP hD hS rfl dX6_modified_32
  · have hf := (if_neg c_2).symm.trans hf
    refine lv_aload_n hx hb dX6_modified_16 rfl (lv_at hl 1 rfl) ?_
    refine va_get (D := (dC, dI)) (ci := 7) (v := .ref hR) (C := RX6) (T := TX6) (N := 25) hx hb hts uu_X6_modified_X6 hown hK hP 0 rfl rfl 6 (by decide) (hts (.fieldLink RX6 7 "BlockScreenModel" "screen" "[I") (List.mem_of_getElem? (i := 2) rfl)) (fun _ h9 => h9) rfl dX6_modified_17 ?_
    refine lv_iload_n hx hb dX6_modified_20 rfl (lv_at hl 0 rfl) ?_
    rcases Classical.em (r_1 < 0 ∨ 5676 ≤ r_1.toNatClampNeg) with c_3 | c_3
    · exact nn_abs ((if_pos c_3).symm.trans hf)
    have hf := (if_neg c_3).symm.trans hf
    refine va_iald hx hb hK hP 1 0 rfl rfl c_3 dX6_modified_21 ?_
    refine lv_iconst (v := 1) hx hb dX6_modified_22 (by decide) ?_
    refine lv_iand hx hb dX6_modified_23 ?_
    refine lv_if_eq (tgt := 31) hx hb dX6_modified_24 (by decide) (fun c_4 => ?_) (fun c_4 => ?_)
    · have hf := (if_pos c_4).symm.trans hf
      refine lv_iconst (v := 0) hx hb dX6_modified_31 (by decide) ?_
      have hf := Option.some.inj hf
      subst hf
      exact my_retz () hx hb hr hlocks rfl hK hP hD hS rfl dX6_modified_32
    · have hf := (if_neg c_4).symm.trans hf
      refine lv_iconst (v := 1) hx hb dX6_modified_27 (by decide) ?_
      refine lv_goto (tgt := 32) hx hb dX6_modified_28 (by decide) ?_
      have hf := Option.some.inj hf
      subst hf
      exact my_retz () hx hb hr hlocks rfl hK hP hD hS rfl dX6_modified_32

theorem uu_X6_cell_X6 : ∀ w ∈ u_ws RX6 TX6 25, w ∈ wsX6_cell := fun _ h => List.mem_cons_of_mem _ (List.mem_append_right _ h)
def f_X6_cell (m_cells : Int32) (m_thrown : Int32) (m_screen : Nat → Int32) (a1 : Int32) : Option (Int32 × Int32) :=
    if a1 < 0 then
    some (0, 1)
    else
    if a1 < m_cells then
    if a1 < 0 ∨ 5676 ≤ a1.toNatClampNeg then none else
    some (m_screen a1.toNatClampNeg, 0)
    else
    some (0, 1)
set_option maxHeartbeats 400000 in
set_option maxRecDepth 100000 in
theorem c_X6_cell (l : Launch) (dC : Nat → ClassId) (dI : Nat → Nat → Nat) (cI : ClassId) (hM hR hT hZ : Nat) (m_allRows : Int32) (m_allColumns : Int32) (m_rows : Int32) (m_columns : Int32) (m_cells : Int32) (m_cursor : Int32) (m_locked : Bool) (m_insert : Bool) (m_alarms : Int32) (m_rejects : Int32) (m_latest : Int32) (m_thrown : Int32) (m_streamLong : Int32) (m_at : Int32) (m_place : Int32) (m_orders : Int32) (m_escaped : Bool) (m_broken : Bool) (m_signBefore : Bool) (m_free : Bool) (m_waitsLong : Int32) (m_cutOff : Bool) (m_screen : Nat → Int32) (m_stream : Nat → Int32) (m_waits : Nat → Int32) (sz : Nat) (a1 : Int32) (res : Int32 × Int32) (hf : f_X6_cell m_cells m_thrown m_screen a1 = some res) : Met l yX6_cell wsX6_cell ({ frames := 0, cells := 0, slots := 0, locals := 0 }) (va_Pc [.ref hM, .int a1] (my_Pre (dC, dI) [(cI, .int)] (wM hM hR hT hZ cI m_allRows m_allColumns m_rows m_columns m_cells m_cursor m_locked m_insert m_alarms m_rejects m_latest m_thrown m_streamLong m_at m_place m_orders m_escaped m_broken m_signBefore m_free m_waitsLong m_cutOff m_screen m_stream m_waits) sz)) (my_Qi (S := Unit) (dC, dI) [(cI, .int)] res.1 (fun _ => wM hM hR hT hZ cI m_allRows m_allColumns m_rows m_columns m_cells m_cursor m_locked m_insert m_alarms m_rejects m_latest res.2 m_streamLong m_at m_place m_orders m_escaped m_broken m_signBefore m_free m_waitsLong m_cutOff m_screen m_stream m_waits) (va_A (wM hM hR hT hZ cI m_allRows m_allColumns m_rows m_columns m_cells m_cursor m_locked m_insert m_alarms m_rejects m_latest m_thrown m_streamLong m_at m_place m_orders m_escaped m_broken m_signBefore m_free m_waitsLong m_cutOff m_screen m_stream m_waits) sz)) 0 0 (va_A (wM hM hR hT hZ cI m_allRows m_allColumns m_rows m_columns m_cells m_cursor m_locked m_insert m_alarms m_rejects m_latest m_thrown m_streamLong m_at m_place m_orders m_escaped m_broken m_signBefore m_free m_waitsLong m_cutOff m_screen m_stream m_waits) sz) := by
  refine my_enter (cc := cX6_cell) (maxL := 2) (ret := (some .int)) (Qc := my_Qi (S := Unit) (dC, dI) [(cI, .int)] res.1 (fun _ => wM hM hR hT hZ cI m_allRows m_allColumns m_rows m_columns m_cells m_cursor m_locked m_insert m_alarms m_rejects m_latest res.2 m_streamLong m_at m_place m_orders m_escaped m_broken m_signBefore m_free m_waitsLong m_cutOff m_screen m_stream m_waits)) (by decide) rfl (Nat.le_of_ble_eq_true rfl) ?_
  intro p e s m below meth c A ls hx hb hr hml hts hown hlocks hnm hP hK hD hA hS hl
  have hown : s.vm.findClass RX6 = some m.cls := hown
  have hl : lv_has ls 2 [(0, .ref hM), (1, .int a1)] := hl
  unfold f_X6_cell at hf
  refine lv_aload_n hx hb dX6_cell_0 rfl (lv_at hl 0 rfl) ?_
  refine lv_iload_n hx hb dX6_cell_1 rfl (lv_at hl 1 rfl) ?_
  refine lv_if_lt (tgt := 13) hx hb dX6_cell_2 (by decide) (fun c_1 => ?_) (fun c_1 => ?_)
  · have hf := (if_pos c_1).symm.trans hf
    refine lv_iconst (v := 1) hx hb dX6_cell_13 (by decide) ?_
    refine lv_goto (tgt := 18) hx hb dX6_cell_14 (by decide) ?_
    refine va_put (D := (dC, dI)) (ci := 7) (v := .int 1) (C := RX6) (T := TX6) (N := 25) hx hb hts uu_X6_cell_X6 tyX6 tyX6_ok nmX6 hown hK hP hD hS 0 rfl rfl 12 (by decide) (hts (.fieldLink RX6 37 "BlockScreenModel" "thrown" "I") (List.mem_of_getElem? (i := 2) rfl)) (fun _ h9 => h9) rfl (tyX6_ok 12 (by decide)) rfl rfl (Nat.le_of_ble_eq_true rfl) dX6_cell_18 (fun H locs hP hD hS => ?_)
    have hP : va_P (dC, dI) vwCl (wM hM hR hT hZ cI m_allRows m_allColumns m_rows m_columns m_cells m_cursor m_locked m_insert m_alarms m_rejects m_latest 1 m_streamLong m_at m_place m_orders m_escaped m_broken m_signBefore m_free m_waitsLong m_cutOff m_screen m_stream m_waits) H := hP
    have hD : va_D A (wM hM hR hT hZ cI m_allRows m_allColumns m_rows m_columns m_cells m_cursor m_locked m_insert m_alarms m_rejects m_latest 1 m_streamLong m_at m_place m_orders m_escaped m_broken m_signBefore m_free m_waitsLong m_cutOff m_screen m_stream m_waits) := hD
    refine lv_aload_n hx hb dX6_cell_21 rfl (lv_at hl 0 rfl) ?_
    refine va_get (D := (dC, dI)) (ci := 7) (v := .int 1) (C := RX6) (T := TX6) (N := 25) hx hb hts uu_X6_cell_X6 hown hK hP 0 rfl rfl 12 (by decide) (hts (.fieldLink RX6 37 "BlockScreenModel" "thrown" "I") (List.mem_of_getElem? (i := 2) rfl)) (fun _ h9 => h9) rfl dX6_cell_22 ?_
    refine lv_if_eq (tgt := 32) hx hb dX6_cell_25 (by decide) (fun c_2 => ?_) (fun c_2 => ?_)
    · exact absurd c_2 (by decide)
    · refine lv_iconst (v := 0) hx hb dX6_cell_28 (by decide) ?_
      refine lv_goto (tgt := 38) hx hb dX6_cell_29 (by decide) ?_
      have hf := Option.some.inj hf
      subst hf
      exact my_reti () hx hb hr hlocks hK hP hD hS rfl dX6_cell_38
  · have hf := (if_neg c_1).symm.trans hf
    refine lv_iload_n hx hb dX6_cell_5 rfl (lv_at hl 1 rfl) ?_
    refine lv_aload_n hx hb dX6_cell_6 rfl (lv_at hl 0 rfl) ?_
    refine va_get (D := (dC, dI)) (ci := 7) (v := .int m_cells) (C := RX6) (T := TX6) (N := 25) hx hb hts uu_X6_cell_X6 hown hK hP 0 rfl rfl 4 (by decide) (hts (.fieldLink RX6 46 "BlockScreenModel" "cells" "I") (List.mem_of_getElem? (i := 1) rfl)) (fun _ h9 => h9) rfl dX6_cell_7 ?_
    refine lv_icmp_lt (tgt := 17) hx hb dX6_cell_10 (by decide) (fun c_3 => ?_) (fun c_3 => ?_)
    · have hf := (if_pos c_3).symm.trans hf
      refine lv_iconst (v := 0) hx hb dX6_cell_17 (by decide) ?_
      refine va_put (D := (dC, dI)) (ci := 7) (v := .int 0) (C := RX6) (T := TX6) (N := 25) hx hb hts uu_X6_cell_X6 tyX6 tyX6_ok nmX6 hown hK hP hD hS 0 rfl rfl 12 (by decide) (hts (.fieldLink RX6 37 "BlockScreenModel" "thrown" "I") (List.mem_of_getElem? (i := 2) rfl)) (fun _ h9 => h9) rfl (tyX6_ok 12 (by decide)) rfl rfl (Nat.le_of_ble_eq_true rfl) dX6_cell_18 (fun H locs hP hD hS => ?_)
      have hP : va_P (dC, dI) vwCl (wM hM hR hT hZ cI m_allRows m_allColumns m_rows m_columns m_cells m_cursor m_locked m_insert m_alarms m_rejects m_latest 0 m_streamLong m_at m_place m_orders m_escaped m_broken m_signBefore m_free m_waitsLong m_cutOff m_screen m_stream m_waits) H := hP
      have hD : va_D A (wM hM hR hT hZ cI m_allRows m_allColumns m_rows m_columns m_cells m_cursor m_locked m_insert m_alarms m_rejects m_latest 0 m_streamLong m_at m_place m_orders m_escaped m_broken m_signBefore m_free m_waitsLong m_cutOff m_screen m_stream m_waits) := hD
      refine lv_aload_n hx hb dX6_cell_21 rfl (lv_at hl 0 rfl) ?_
      refine va_get (D := (dC, dI)) (ci := 7) (v := .int 0) (C := RX6) (T := TX6) (N := 25) hx hb hts uu_X6_cell_X6 hown hK hP 0 rfl rfl 12 (by decide) (hts (.fieldLink RX6 37 "BlockScreenModel" "thrown" "I") (List.mem_of_getElem? (i := 2) rfl)) (fun _ h9 => h9) rfl dX6_cell_22 ?_
      refine lv_if_eq (tgt := 32) hx hb dX6_cell_25 (by decide) (fun c_4 => ?_) (fun c_4 => ?_)
      · refine lv_aload_n hx hb dX6_cell_32 rfl (lv_at hl 0 rfl) ?_
        refine va_get (D := (dC, dI)) (ci := 7) (v := .ref hR) (C := RX6) (T := TX6) (N := 25) hx hb hts uu_X6_cell_X6 hown hK hP 0 rfl rfl 6 (by decide) (hts (.fieldLink RX6 7 "BlockScreenModel" "screen" "[I") (List.mem_of_getElem? (i := 3) rfl)) (fun _ h9 => h9) rfl dX6_cell_33 ?_
        refine lv_iload_n hx hb dX6_cell_36 rfl (lv_at hl 1 rfl) ?_
        rcases Classical.em (a1 < 0 ∨ 5676 ≤ a1.toNatClampNeg) with c_5 | c_5
        · exact nn_abs ((if_pos c_5).symm.trans hf)
        have hf := (if_neg c_5).symm.trans hf
        refine va_iald hx hb hK hP 1 0 rfl rfl c_5 dX6_cell_37 ?_
        have hf := Option.some.inj hf
        subst hf
        exact my_reti () hx hb hr hlocks hK hP hD hS rfl dX6_cell_38
      · exact absurd (by decide) c_4
    · have hf := (if_neg c_3).symm.trans hf
      refine lv_iconst (v := 1) hx hb dX6_cell_13 (by decide) ?_
      refine lv_goto (tgt := 18) hx hb dX6_cell_14 (by decide) ?_
      refine va_put (D := (dC, dI)) (ci := 7) (v := .int 1) (C := RX6) (T := TX6) (N := 25) hx hb hts uu_X6_cell_X6 tyX6 tyX6_ok nmX6 hown hK hP hD hS 0 rfl rfl 12 (by decide) (hts (.fieldLink RX6 37 "BlockScreenModel" "thrown" "I") (List.mem_of_getElem? (i := 2) rfl)) (fun _ h9 => h9) rfl (tyX6_ok 12 (by decide)) rfl rfl (Nat.le_of_ble_eq_true rfl) dX6_cell_18 (fun H locs hP hD hS => ?_)
      have hP : va_P (dC, dI) vwCl (wM hM hR hT hZ cI m_allRows m_allColumns m_rows m_columns m_cells m_cursor m_locked m_insert m_alarms m_rejects m_latest 1 m_streamLong m_at m_place m_orders m_escaped m_broken m_signBefore m_free m_waitsLong m_cutOff m_screen m_stream m_waits) H := hP
      have hD : va_D A (wM hM hR hT hZ cI m_allRows m_allColumns m_rows m_columns m_cells m_cursor m_locked m_insert m_alarms m_rejects m_latest 1 m_streamLong m_at m_place m_orders m_escaped m_broken m_signBefore m_free m_waitsLong m_cutOff m_screen m_stream m_waits) := hD
      refine lv_aload_n hx hb dX6_cell_21 rfl (lv_at hl 0 rfl) ?_
      refine va_get (D := (dC, dI)) (ci := 7) (v := .int 1) (C := RX6) (T := TX6) (N := 25) hx hb hts uu_X6_cell_X6 hown hK hP 0 rfl rfl 12 (by decide) (hts (.fieldLink RX6 37 "BlockScreenModel" "thrown" "I") (List.mem_of_getElem? (i := 2) rfl)) (fun _ h9 => h9) rfl dX6_cell_22 ?_
      refine lv_if_eq (tgt := 32) hx hb dX6_cell_25 (by decide) (fun c_6 => ?_) (fun c_6 => ?_)
      · exact absurd c_6 (by decide)
      · refine lv_iconst (v := 0) hx hb dX6_cell_28 (by decide) ?_
        refine lv_goto (tgt := 38) hx hb dX6_cell_29 (by decide) ?_
        have hf := Option.some.inj hf
        subst hf
        exact my_reti () hx hb hr hlocks hK hP hD hS rfl dX6_cell_38

theorem uu_X6_count_X6 : ∀ w ∈ u_ws RX6 TX6 25, w ∈ wsX6_count := fun _ h => List.mem_cons_of_mem _ (List.mem_append_right _ h)
def f_X6_count (m_rows : Int32) (m_columns : Int32) (m_cells : Int32) (m_insert : Bool) (m_alarms : Int32) (m_rejects : Int32) (m_latest : Int32) (m_thrown : Int32) (m_screen : Nat → Int32) (a1 : Int32) : Option (Int32 × Int32) :=
    if a1 = 0 then
    some (m_rows, 0)
    else
    if a1 = 1 then
    some (m_columns, 0)
    else
    if a1 = 2 then
    Option.bind (f_X6_fields m_cells m_screen) (fun r_4 =>
    some (r_4, 0))
    else
    if a1 = 3 then
    some (m_alarms, 0)
    else
    if a1 = 4 then
    some (m_rejects, 0)
    else
    if a1 = 5 then
    if (b2i m_insert) = 0 then
    some (0, 0)
    else
    some (1, 0)
    else
    if a1 = 6 then
    some (m_latest, 0)
    else
    some ((-1), 0)
set_option maxHeartbeats 400000 in
set_option maxRecDepth 100000 in
theorem c_X6_count (l : Launch) (dC : Nat → ClassId) (dI : Nat → Nat → Nat) (cI : ClassId) (hM hR hT hZ : Nat) (m_allRows : Int32) (m_allColumns : Int32) (m_rows : Int32) (m_columns : Int32) (m_cells : Int32) (m_cursor : Int32) (m_locked : Bool) (m_insert : Bool) (m_alarms : Int32) (m_rejects : Int32) (m_latest : Int32) (m_thrown : Int32) (m_streamLong : Int32) (m_at : Int32) (m_place : Int32) (m_orders : Int32) (m_escaped : Bool) (m_broken : Bool) (m_signBefore : Bool) (m_free : Bool) (m_waitsLong : Int32) (m_cutOff : Bool) (m_screen : Nat → Int32) (m_stream : Nat → Int32) (m_waits : Nat → Int32) (sz : Nat) (a1 : Int32) (res : Int32 × Int32) (hf : f_X6_count m_rows m_columns m_cells m_insert m_alarms m_rejects m_latest m_thrown m_screen a1 = some res) : Met l yX6_count wsX6_count ({ frames := 2, cells := 0, slots := 0, locals := 43 }) (va_Pc [.ref hM, .int a1] (my_Pre (dC, dI) [(cI, .int)] (wM hM hR hT hZ cI m_allRows m_allColumns m_rows m_columns m_cells m_cursor m_locked m_insert m_alarms m_rejects m_latest m_thrown m_streamLong m_at m_place m_orders m_escaped m_broken m_signBefore m_free m_waitsLong m_cutOff m_screen m_stream m_waits) sz)) (my_Qi (S := Unit) (dC, dI) [(cI, .int)] res.1 (fun _ => wM hM hR hT hZ cI m_allRows m_allColumns m_rows m_columns m_cells m_cursor m_locked m_insert m_alarms m_rejects m_latest res.2 m_streamLong m_at m_place m_orders m_escaped m_broken m_signBefore m_free m_waitsLong m_cutOff m_screen m_stream m_waits) (va_A (wM hM hR hT hZ cI m_allRows m_allColumns m_rows m_columns m_cells m_cursor m_locked m_insert m_alarms m_rejects m_latest m_thrown m_streamLong m_at m_place m_orders m_escaped m_broken m_signBefore m_free m_waitsLong m_cutOff m_screen m_stream m_waits) sz)) 0 0 (va_A (wM hM hR hT hZ cI m_allRows m_allColumns m_rows m_columns m_cells m_cursor m_locked m_insert m_alarms m_rejects m_latest m_thrown m_streamLong m_at m_place m_orders m_escaped m_broken m_signBefore m_free m_waitsLong m_cutOff m_screen m_stream m_waits) sz) := by
  refine my_enter (cc := cX6_count) (maxL := 2) (ret := (some .int)) (Qc := my_Qi (S := Unit) (dC, dI) [(cI, .int)] res.1 (fun _ => wM hM hR hT hZ cI m_allRows m_allColumns m_rows m_columns m_cells m_cursor m_locked m_insert m_alarms m_rejects m_latest res.2 m_streamLong m_at m_place m_orders m_escaped m_broken m_signBefore m_free m_waitsLong m_cutOff m_screen m_stream m_waits)) (by decide) rfl (Nat.le_of_ble_eq_true rfl) ?_
  intro p e s m below meth c A ls hx hb hr hml hts hown hlocks hnm hP hK hD hA hS hl
  have hown : s.vm.findClass RX6 = some m.cls := hown
  have hl : lv_has ls 2 [(0, .ref hM), (1, .int a1)] := hl
  unfold f_X6_count at hf
  refine lv_aload_n hx hb dX6_count_0 rfl (lv_at hl 0 rfl) ?_
  refine lv_iconst (v := 0) hx hb dX6_count_1 (by decide) ?_
  refine va_put (D := (dC, dI)) (ci := 7) (v := .int 0) (C := RX6) (T := TX6) (N := 25) hx hb hts uu_X6_count_X6 tyX6 tyX6_ok nmX6 hown hK hP hD hS 0 rfl rfl 12 (by decide) (hts (.fieldLink RX6 37 "BlockScreenModel" "thrown" "I") (List.mem_of_getElem? (i := 1) rfl)) (fun _ h9 => h9) rfl (tyX6_ok 12 (by decide)) rfl rfl (Nat.le_of_ble_eq_true rfl) dX6_count_2 (fun H locs hP hD hS => ?_)
  have hP : va_P (dC, dI) vwCl (wM hM hR hT hZ cI m_allRows m_allColumns m_rows m_columns m_cells m_cursor m_locked m_insert m_alarms m_rejects m_latest 0 m_streamLong m_at m_place m_orders m_escaped m_broken m_signBefore m_free m_waitsLong m_cutOff m_screen m_stream m_waits) H := hP
  have hD : va_D A (wM hM hR hT hZ cI m_allRows m_allColumns m_rows m_columns m_cells m_cursor m_locked m_insert m_alarms m_rejects m_latest 0 m_streamLong m_at m_place m_orders m_escaped m_broken m_signBefore m_free m_waitsLong m_cutOff m_screen m_stream m_waits) := hD
  refine lv_iload_n hx hb dX6_count_5 rfl (lv_at hl 1 rfl) ?_
  rcases Classical.em (a1 = 0) with c_1 | c_1
  · have hf := (if_pos c_1).symm.trans hf
    refine lv_tableIn (off := 42) (tgt := 48) hx hb dX6_count_6 (by rw [c_1]; decide) (by rw [c_1]; decide) (by rw [c_1]; rfl) (by decide) ?_
    refine lv_aload_n hx hb dX6_count_48 rfl (lv_at hl 0 rfl) ?_
    refine va_get (D := (dC, dI)) (ci := 7) (v := .int m_rows) (C := RX6) (T := TX6) (N := 25) hx hb hts uu_X6_count_X6 hown hK hP 0 rfl rfl 2 (by decide) (hts (.fieldLink RX6 40 "BlockScreenModel" "rows" "I") (List.mem_of_getElem? (i := 2) rfl)) (fun _ h9 => h9) rfl dX6_count_49 ?_
    have hf := Option.some.inj hf
    subst hf
    exact my_reti () hx hb hr hlocks hK hP hD hS rfl dX6_count_52
  have hf := (if_neg c_1).symm.trans hf
  rcases Classical.em (a1 = 1) with c_2 | c_2
  · have hf := (if_pos c_2).symm.trans hf
    refine lv_tableIn (off := 47) (tgt := 53) hx hb dX6_count_6 (by rw [c_2]; decide) (by rw [c_2]; decide) (by rw [c_2]; rfl) (by decide) ?_
    refine lv_aload_n hx hb dX6_count_53 rfl (lv_at hl 0 rfl) ?_
    refine va_get (D := (dC, dI)) (ci := 7) (v := .int m_columns) (C := RX6) (T := TX6) (N := 25) hx hb hts uu_X6_count_X6 hown hK hP 0 rfl rfl 3 (by decide) (hts (.fieldLink RX6 43 "BlockScreenModel" "columns" "I") (List.mem_of_getElem? (i := 3) rfl)) (fun _ h9 => h9) rfl dX6_count_54 ?_
    have hf := Option.some.inj hf
    subst hf
    exact my_reti () hx hb hr hlocks hK hP hD hS rfl dX6_count_57
  have hf := (if_neg c_2).symm.trans hf
  rcases Classical.em (a1 = 2) with c_3 | c_3
  · have hf := (if_pos c_3).symm.trans hf
    refine lv_tableIn (off := 52) (tgt := 58) hx hb dX6_count_6 (by rw [c_3]; decide) (by rw [c_3]; decide) (by rw [c_3]; rfl) (by decide) ?_
    refine lv_aload_n hx hb dX6_count_58 rfl (lv_at hl 0 rfl) ?_
    obtain ⟨r_4, hq_4, hf⟩ := ob_inv hf
    refine my_cVi (As := []) (rest := []) ⟨hx, hb, hml, hown, hts⟩ (c_X6_fields l dC dI cI hM hR hT hZ m_allRows m_allColumns m_rows m_columns m_cells m_cursor m_locked m_insert m_alarms m_rejects m_latest 0 m_streamLong m_at m_place m_orders m_escaped m_broken m_signBefore m_free m_waitsLong m_cutOff m_screen m_stream m_waits _  r_4 hq_4) (cwV 0 hts gX6_count_X6_fields rfl rfl rfl (by decide +kernel) ⟨Nat.le_of_ble_eq_true rfl, Nat.le_of_ble_eq_true rfl⟩) hK hP hD hS hA 0 7 rfl rfl rfl hl.1 rfl (Nat.le_of_ble_eq_true rfl) dX6_count_59 ⟨Nat.zero_le _, Nat.zero_le _⟩ (fun _ H locs hP hD hS => ?_)
    have hP : va_P (dC, dI) vwCl (wM hM hR hT hZ cI m_allRows m_allColumns m_rows m_columns m_cells m_cursor m_locked m_insert m_alarms m_rejects m_latest 0 m_streamLong m_at m_place m_orders m_escaped m_broken m_signBefore m_free m_waitsLong m_cutOff m_screen m_stream m_waits) H := hP
    have hD : va_D A (wM hM hR hT hZ cI m_allRows m_allColumns m_rows m_columns m_cells m_cursor m_locked m_insert m_alarms m_rejects m_latest 0 m_streamLong m_at m_place m_orders m_escaped m_broken m_signBefore m_free m_waitsLong m_cutOff m_screen m_stream m_waits) := hD
    have hf := Option.some.inj hf
    subst hf
    exact my_reti () hx hb hr hlocks hK hP hD hS rfl dX6_count_62
  have hf := (if_neg c_3).symm.trans hf
  rcases Classical.em (a1 = 3) with c_5 | c_5
  · have hf := (if_pos c_5).symm.trans hf
    refine lv_tableIn (off := 57) (tgt := 63) hx hb dX6_count_6 (by rw [c_5]; decide) (by rw [c_5]; decide) (by rw [c_5]; rfl) (by decide) ?_
    refine lv_aload_n hx hb dX6_count_63 rfl (lv_at hl 0 rfl) ?_
    refine va_get (D := (dC, dI)) (ci := 7) (v := .int m_alarms) (C := RX6) (T := TX6) (N := 25) hx hb hts uu_X6_count_X6 hown hK hP 0 rfl rfl 9 (by decide) (hts (.fieldLink RX6 131 "BlockScreenModel" "alarms" "I") (List.mem_of_getElem? (i := 4) rfl)) (fun _ h9 => h9) rfl dX6_count_64 ?_
    have hf := Option.some.inj hf
    subst hf
    exact my_reti () hx hb hr hlocks hK hP hD hS rfl dX6_count_67
  have hf := (if_neg c_5).symm.trans hf
  rcases Classical.em (a1 = 4) with c_6 | c_6
  · have hf := (if_pos c_6).symm.trans hf
    refine lv_tableIn (off := 62) (tgt := 68) hx hb dX6_count_6 (by rw [c_6]; decide) (by rw [c_6]; decide) (by rw [c_6]; rfl) (by decide) ?_
    refine lv_aload_n hx hb dX6_count_68 rfl (lv_at hl 0 rfl) ?_
    refine va_get (D := (dC, dI)) (ci := 7) (v := .int m_rejects) (C := RX6) (T := TX6) (N := 25) hx hb hts uu_X6_count_X6 hown hK hP 0 rfl rfl 10 (by decide) (hts (.fieldLink RX6 150 "BlockScreenModel" "rejects" "I") (List.mem_of_getElem? (i := 5) rfl)) (fun _ h9 => h9) rfl dX6_count_69 ?_
    have hf := Option.some.inj hf
    subst hf
    exact my_reti () hx hb hr hlocks hK hP hD hS rfl dX6_count_72
  have hf := (if_neg c_6).symm.trans hf
  rcases Classical.em (a1 = 5) with c_7 | c_7
  · have hf := (if_pos c_7).symm.trans hf
    refine lv_tableIn (off := 67) (tgt := 73) hx hb dX6_count_6 (by rw [c_7]; decide) (by rw [c_7]; decide) (by rw [c_7]; rfl) (by decide) ?_
    refine lv_aload_n hx hb dX6_count_73 rfl (lv_at hl 0 rfl) ?_
    refine va_get (D := (dC, dI)) (ci := 7) (v := .int (b2i m_insert)) (C := RX6) (T := TX6) (N := 25) hx hb hts uu_X6_count_X6 hown hK hP 0 rfl rfl 8 (by decide) (hts (.fieldLink RX6 204 "BlockScreenModel" "insert" "Z") (List.mem_of_getElem? (i := 6) rfl)) (fun _ h9 => h9) rfl dX6_count_74 ?_
    refine lv_if_eq (tgt := 84) hx hb dX6_count_77 (by decide) (fun c_8 => ?_) (fun c_8 => ?_)
    · have hf := (if_pos c_8).symm.trans hf
      refine lv_iconst (v := 0) hx hb dX6_count_84 (by decide) ?_
      have hf := Option.some.inj hf
      subst hf
      exact my_reti () hx hb hr hlocks hK hP hD hS rfl dX6_count_85
    · have hf := (if_neg c_8).symm.trans hf
      refine lv_iconst (v := 1) hx hb dX6_count_80 (by decide) ?_
      refine lv_goto (tgt := 85) hx hb dX6_count_81 (by decide) ?_
      have hf := Option.some.inj hf
      subst hf
      exact my_reti () hx hb hr hlocks hK hP hD hS rfl dX6_count_85
  have hf := (if_neg c_7).symm.trans hf
  rcases Classical.em (a1 = 6) with c_9 | c_9
  · have hf := (if_pos c_9).symm.trans hf
    refine lv_tableIn (off := 80) (tgt := 86) hx hb dX6_count_6 (by rw [c_9]; decide) (by rw [c_9]; decide) (by rw [c_9]; rfl) (by decide) ?_
    refine lv_aload_n hx hb dX6_count_86 rfl (lv_at hl 0 rfl) ?_
    refine va_get (D := (dC, dI)) (ci := 7) (v := .int m_latest) (C := RX6) (T := TX6) (N := 25) hx hb hts uu_X6_count_X6 hown hK hP 0 rfl rfl 11 (by decide) (hts (.fieldLink RX6 17 "BlockScreenModel" "latest" "I") (List.mem_of_getElem? (i := 7) rfl)) (fun _ h9 => h9) rfl dX6_count_87 ?_
    have hf := Option.some.inj hf
    subst hf
    exact my_reti () hx hb hr hlocks hK hP hD hS rfl dX6_count_90
  have hf := (if_neg c_9).symm.trans hf
  refine lv_tableOut (tgt := 91) hx hb dX6_count_6 (by have hz := And.intro (lv_neT c_1 (show (0 : Int32).toInt = 0 from by decide)) trivial; have := lv_neT c_1 (show (0 : Int32).toInt = 0 from by decide); have := lv_neT c_2 (show (1 : Int32).toInt = 1 from by decide); have := lv_neT c_3 (show (2 : Int32).toInt = 2 from by decide); have := lv_neT c_5 (show (3 : Int32).toInt = 3 from by decide); have := lv_neT c_6 (show (4 : Int32).toInt = 4 from by decide); have := lv_neT c_7 (show (5 : Int32).toInt = 5 from by decide); have := lv_neT c_9 (show (6 : Int32).toInt = 6 from by decide); omega) (by decide) ?_
  refine lv_iconst (v := (-1)) hx hb dX6_count_91 (by decide) ?_
  have hf := Option.some.inj hf
  subst hf
  exact my_reti () hx hb hr hlocks hK hP hD hS rfl dX6_count_92
