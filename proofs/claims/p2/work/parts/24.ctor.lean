theorem same_arrT {D : va_G} {tys : List (ClassId × FieldType)} {s : State} {c1 c2 : ClassId} {ty : FieldType} (hty : (match ty with | .object _ => false | _ => true) = true) (hK : va_K D vwCl tys s) (t1 t2 : Nat) (h1 : tys[t1]? = some (c1, ty)) (h2 : tys[t2]? = some (c2, ty)) : c1 = c2 := by
  have a1 := (hK.2 t1 _ h1).2
  have a2 := (hK.2 t2 _ h2).2
  cases ty with
  | object C => cases hty
  | _ =>
    simp only [va_RA] at a1 a2
    exact Option.some.inj (a1.symm.trans a2)
def clR (a : Int32) : Int32 := if 1 < (if a < 43 then a else 43) then (if a < 43 then a else 43) else 1
def clC (a : Int32) : Int32 := if 1 < (if a < 132 then a else 132) then (if a < 132 then a else 132) else 1
theorem cl_nI {a : Int32} (M : Nat) (hM : 1 ≤ M ∧ M < 1000) {x : Int32} (hx : x = if 1 < (if a < nI M then a else nI M) then (if a < nI M then a else nI M) else 1) : ∃ r : Nat, 1 ≤ r ∧ r ≤ M ∧ x = nI r := by
  have e1 : (1 : Int32) = nI 1 := rfl
  rw [hx]
  by_cases h : a < nI M
  · rw [if_pos h]
    by_cases h1 : 1 < a
    · rw [if_pos h1]
      have h6 : ¬ a < 0 := by
        intro h
        have h3 := Int32.lt_iff_toInt_lt.mp h
        have h4 := Int32.lt_iff_toInt_lt.mp h1
        have h7 : (0 : Int32).toInt = 0 := by decide
        have h8 : (1 : Int32).toInt = 1 := by decide
        omega
      obtain ⟨j, hj, rfl⟩ := nI_of h6
      rw [e1] at h1
      have a1 := (nI_ltI (by omega) hj).mp h1
      have a2 := (nI_ltI hj (by omega)).mp h
      exact ⟨j, by omega, by omega, rfl⟩
    · rw [if_neg h1]
      exact ⟨1, by omega, by omega, rfl⟩
  · rw [if_neg h]
    by_cases h1 : 1 < nI M
    · rw [if_pos h1]
      exact ⟨M, by omega, Nat.le_refl _, rfl⟩
    · rw [if_neg h1]
      exact ⟨1, by omega, by omega, rfl⟩
theorem clR_nI (a : Int32) : ∃ r : Nat, 1 ≤ r ∧ r ≤ 43 ∧ clR a = nI r := by
  have e : (43 : Int32) = nI 43 := by decide
  unfold clR
  rw [e]
  exact cl_nI (a := a) 43 (by omega) rfl
theorem clC_nI (a : Int32) : ∃ r : Nat, 1 ≤ r ∧ r ≤ 132 ∧ clC a = nI r := by
  have e : (132 : Int32) = nI 132 := by decide
  unfold clC
  rw [e]
  exact cl_nI (a := a) 132 (by omega) rfl
theorem uu_X0_init_X0 : ∀ w ∈ u_ws RX0 TX0 2, w ∈ wsX0_init := fun _ h => List.mem_cons_of_mem _ (List.mem_append_right _ h)
set_option maxHeartbeats 400000 in
set_option maxRecDepth 100000 in
theorem c_X0_init (l : Launch) (dC : Nat → ClassId) (dI : Nat → Nat → Nat) (cI cB : ClassId) (o : Nat) (sz : Nat)  : Met l yX0_init wsX0_init ({ frames := 1, cells := 1, slots := 64, locals := 12 }) (va_Pc [.ref o] (my_Pre (dC, dI) [(cI, .int), (cB, .byte)] [(o, .inr (1, [.null, .int 0]))] sz)) (my_Qv (S := Nat) (dC, dI) [(cI, .int), (cB, .byte)] (fun u => [(o, .inr (1, [.ref u, .int 0])), (u, .inl (cB, 64, .inl (fun _ => 0)))]) (va_A [(o, .inr (1, [.null, .int 0]))] sz)) 1 64 (va_A [(o, .inr (1, [.null, .int 0]))] sz) := by
  refine my_enter (y := yX0_init) (ws := wsX0_init) (av := [.ref o]) (W0 := [(o, .inr (1, [.null, .int 0]))]) (sz := sz) (D := (dC, dI)) (tys := [(cI, .int), (cB, .byte)]) (cc := cX0_init) (maxL := 1) (ret := none) (Qc := my_Qv (S := Nat) (dC, dI) [(cI, .int), (cB, .byte)] (fun u => [(o, .inr (1, [.ref u, .int 0])), (u, .inl (cB, 64, .inl (fun _ => 0)))])) (by decide) rfl (Nat.le_of_ble_eq_true rfl) ?_
  intro p e s m below meth c A ls hx hb hr hml hts hown hlocks hnm hP hK hD hA hS hl
  have hown : s.vm.findClass RX0 = some m.cls := hown
  have hnm : meth.name = "<init>" := hnm
  have hl : lv_has ls 1 [(0, .ref o)] := hl
  refine lv_aload_n hx hb dX0_init_0 rfl (lv_at hl 0 rfl) ?_
  refine W.objInit hx hb hown (hts (.methodLink RX0 3 objectInit) (List.mem_of_getElem? (i := 1) rfl)) (hts (.instanceMethod objectInit) (List.mem_of_getElem? (i := 2) rfl)) (hts (.code objectInit ⟨#[0xb1]⟩ 1 none) (List.mem_of_getElem? (i := 3) rfl)) rfl (by rw [hml]; exact hl.1) rfl dX0_init_1 (Nat.le_of_ble_eq_true rfl) (Nat.le_of_ble_eq_true rfl) ?_
  refine W.eq (g2 := F0 m 4 ls []) rfl ?_
  refine lv_aload_n hx hb dX0_init_4 rfl (lv_at hl 0 rfl) ?_
  refine lv_bipush (v := 64) hx hb dX0_init_5 (by decide) ?_
  have z1a : (Cond.arrayClass (newarray.typeOf .byte)).before ([.ref o] : List Value).toArray s = true := hts (.arrayClass .byte) (List.mem_of_getElem? (i := 4) rfl)
  refine va_newa (atype := .byte) (ty := .byte) (n := 64) (N' := 64) (a0 := (64, .inl (fun _ => 0))) hx hb z1a rfl hK hP hD hS hA (fun cA => rfl) (by decide) (by decide) (by decide) (by show 0 + 1 ≤ 1; omega) (by show 0 + 64 ≤ 64; omega) dX0_init_7 (fun nA_1 cA H hK2 hP hD hS => ?_)
  have hcA : cB = cA := (same_arrT (ty := .byte) (by decide) hK2 2 1 rfl rfl).symm
  subst hcA
  have hP : va_P (dC, dI) vwCl ([(o, .inr (1, [.null, .int 0])), (nA_1, .inl (cB, 64, .inl (fun _ => 0)))]) H := hP
  have hD : va_D A ([(o, .inr (1, [.null, .int 0])), (nA_1, .inl (cB, 64, .inl (fun _ => 0)))]) := hD
  refine va_put (D := (dC, dI)) (ci := 1) (v := .ref nA_1) (C := RX0) (T := TX0) (N := 2) hx hb hts uu_X0_init_X0 tyX0 tyX0_ok nmX0 hown hK hP hD hS 0 rfl rfl 0 (by decide) (hts (.fieldLink RX0 11 "BlockScreen$ByteRow" "bytes" "[B") (List.mem_of_getElem? (i := 5) rfl)) (fun _ h9 => h9) rfl (tyX0_ok 0 (by decide)) rfl rfl (Nat.le_of_ble_eq_true rfl) dX0_init_9 (fun H locs hP hD hS => ?_)
  have hP : va_P (dC, dI) vwCl ([(o, .inr (1, [.ref nA_1, .int 0])), (nA_1, .inl (cB, 64, .inl (fun _ => 0)))]) H := hP
  have hD : va_D A ([(o, .inr (1, [.ref nA_1, .int 0])), (nA_1, .inl (cB, 64, .inl (fun _ => 0)))]) := hD
  refine lv_aload_n hx hb dX0_init_12 rfl (lv_at hl 0 rfl) ?_
  refine lv_iconst (v := 0) hx hb dX0_init_13 (by decide) ?_
  refine va_put (D := (dC, dI)) (ci := 1) (v := .int 0) (C := RX0) (T := TX0) (N := 2) hx hb hts uu_X0_init_X0 tyX0 tyX0_ok nmX0 hown hK hP hD hS 0 rfl rfl 1 (by decide) (hts (.fieldLink RX0 15 "BlockScreen$ByteRow" "length" "I") (List.mem_of_getElem? (i := 6) rfl)) (fun _ h9 => h9) rfl (tyX0_ok 1 (by decide)) rfl rfl (Nat.le_of_ble_eq_true rfl) dX0_init_14 (fun H locs hP hD hS => ?_)
  have hP : va_P (dC, dI) vwCl ([(o, .inr (1, [.ref nA_1, .int 0])), (nA_1, .inl (cB, 64, .inl (fun _ => 0)))]) H := hP
  have hD : va_D A ([(o, .inr (1, [.ref nA_1, .int 0])), (nA_1, .inl (cB, 64, .inl (fun _ => 0)))]) := hD
  exact my_retv nA_1 hx hb hr hlocks hK hP hD hS dX0_init_17
theorem uu_X3_init_X3 : ∀ w ∈ u_ws RX3 TX3 8, w ∈ wsX3_init := fun _ h => List.mem_cons_of_mem _ (List.mem_append_right _ h)
set_option maxHeartbeats 400000 in
set_option maxRecDepth 100000 in
theorem c_X3_init (l : Launch) (dC : Nat → ClassId) (dI : Nat → Nat → Nat) (cI cB : ClassId) (o : Nat) (a1 a2 : Int32) (r k : Nat) (sz : Nat) (hr1 : 1 ≤ r) (hr2 : r ≤ 43) (hr3 : clR a1 = nI r) (hk1 : 1 ≤ k) (hk2 : k ≤ 132) (hk3 : clC a2 = nI k) : Met l yX3_init wsX3_init ({ frames := 1, cells := 1, slots := (r * k), locals := 21 }) (va_Pc [.ref o, .int a1, .int a2] (my_Pre (dC, dI) [(cI, .int), (cB, .byte)] [(o, .inr (4, [.int 0, .int 0, .null, .int 0, .int 0, .int 0, .int 0, .int 0]))] sz)) (my_Qv (S := Nat) (dC, dI) [(cI, .int), (cB, .byte)] (fun u => [(o, .inr (4, [.int (nI r), .int (nI k), .ref u, .int (nI r), .int (nI k), .int (nI r * nI k), .int 0, .int 0])), (u, .inl (cI, (r * k), .inl (fun _ => 0)))]) (va_A [(o, .inr (4, [.int 0, .int 0, .null, .int 0, .int 0, .int 0, .int 0, .int 0]))] sz)) 1 (r * k) (va_A [(o, .inr (4, [.int 0, .int 0, .null, .int 0, .int 0, .int 0, .int 0, .int 0]))] sz) := by
  refine my_enter (y := yX3_init) (ws := wsX3_init) (av := [.ref o, .int a1, .int a2]) (W0 := [(o, .inr (4, [.int 0, .int 0, .null, .int 0, .int 0, .int 0, .int 0, .int 0]))]) (sz := sz) (D := (dC, dI)) (tys := [(cI, .int), (cB, .byte)]) (cc := cX3_init) (maxL := 3) (ret := none) (Qc := my_Qv (S := Nat) (dC, dI) [(cI, .int), (cB, .byte)] (fun u => [(o, .inr (4, [.int (nI r), .int (nI k), .ref u, .int (nI r), .int (nI k), .int (nI r * nI k), .int 0, .int 0])), (u, .inl (cI, (r * k), .inl (fun _ => 0)))])) (by decide) rfl (Nat.le_of_ble_eq_true rfl) ?_
  intro p e s m below meth c A ls hx hb hr hml hts hown hlocks hnm hP hK hD hA hS hl
  have hown : s.vm.findClass RX3 = some m.cls := hown
  have hnm : meth.name = "<init>" := hnm
  have hl : lv_has ls 3 [(0, .ref o), (1, .int a1), (2, .int a2)] := hl
  have ek : nI r * nI k = nI (r * k) := pk_mul r k
  refine lv_aload_n hx hb dX3_init_0 rfl (lv_at hl 0 rfl) ?_
  refine W.objInit hx hb hown (hts (.methodLink RX3 5 objectInit) (List.mem_of_getElem? (i := 1) rfl)) (hts (.instanceMethod objectInit) (List.mem_of_getElem? (i := 2) rfl)) (hts (.code objectInit ⟨#[0xb1]⟩ 1 none) (List.mem_of_getElem? (i := 3) rfl)) rfl (by rw [hml]; exact hl.1) rfl dX3_init_1 (Nat.le_of_ble_eq_true rfl) (Nat.le_of_ble_eq_true rfl) ?_
  refine W.eq (g2 := F0 m 4 ls []) rfl ?_
  refine lv_aload_n hx hb dX3_init_4 rfl (lv_at hl 0 rfl) ?_
  refine lv_iconst (v := 1) hx hb dX3_init_5 (by decide) ?_
  refine lv_bipush (v := 43) hx hb dX3_init_6 (by decide) ?_
  refine lv_iload_n hx hb dX3_init_8 rfl (lv_at hl 1 rfl) ?_
  refine va_mmin hx hb (by rw [hml]; exact hl.1.symm) hown (hts (.methodLink RX3 11 Lib.Math.min.name) (List.mem_of_getElem? (i := 4) rfl)) (hts (.static Lib.Math.min.name) (List.mem_of_getElem? (i := 5) rfl)) (hts (.initialized "java/lang/Math") (List.mem_of_getElem? (i := 6) rfl)) (hts (.code Lib.Math.min.name Lib.Math.min.code 2 (some .int)) (List.mem_of_getElem? (i := 7) rfl)) (Nat.le_of_ble_eq_true rfl) (Nat.le_of_ble_eq_true rfl) (Nat.zero_le _) (Nat.zero_le _) dX3_init_9 ?_
  refine va_mmax hx hb (by rw [hml]; exact hl.1.symm) hown (hts (.methodLink RX3 17 Lib.Math.max.name) (List.mem_of_getElem? (i := 8) rfl)) (hts (.static Lib.Math.max.name) (List.mem_of_getElem? (i := 9) rfl)) (hts (.initialized "java/lang/Math") (List.mem_of_getElem? (i := 6) rfl)) (hts (.code Lib.Math.max.name Lib.Math.max.code 2 (some .int)) (List.mem_of_getElem? (i := 10) rfl)) (Nat.le_of_ble_eq_true rfl) (Nat.le_of_ble_eq_true rfl) (Nat.zero_le _) (Nat.zero_le _) dX3_init_12 ?_
  rw [show ((if 1 < (if a1 < 43 then a1 else 43) then (if a1 < 43 then a1 else 43) else 1) : Int32) = nI r from hr3]
  refine va_putF (D := (dC, dI)) (ci := 4) (v := .int (nI r)) (C := RX3) (T := TX3) (N := 8) hx hb hts uu_X3_init_X3 tyX3 tyX3_ok nmX3 hown hK hP hD hS 0 rfl rfl 0 (by decide) (hts (.fieldLink RX3 20 "BlockScreen$Screen" "allRows" "I") (List.mem_of_getElem? (i := 11) rfl)) (fun _ h9 => h9) rfl hnm rfl (tyX3_ok 0 (by decide)) rfl rfl (Nat.le_of_ble_eq_true rfl) dX3_init_15 (fun H locs hP hD hS => ?_)
  have hP : va_P (dC, dI) vwCl ([(o, .inr (4, [.int (nI r), .int 0, .null, .int 0, .int 0, .int 0, .int 0, .int 0]))]) H := hP
  have hD : va_D A ([(o, .inr (4, [.int (nI r), .int 0, .null, .int 0, .int 0, .int 0, .int 0, .int 0]))]) := hD
  refine lv_aload_n hx hb dX3_init_18 rfl (lv_at hl 0 rfl) ?_
  refine lv_iconst (v := 1) hx hb dX3_init_19 (by decide) ?_
  refine lv_sipush (v := 132) hx hb dX3_init_20 (by decide) ?_
  refine lv_iload_n hx hb dX3_init_23 rfl (lv_at hl 2 rfl) ?_
  refine va_mmin hx hb (by rw [hml]; exact hl.1.symm) hown (hts (.methodLink RX3 11 Lib.Math.min.name) (List.mem_of_getElem? (i := 4) rfl)) (hts (.static Lib.Math.min.name) (List.mem_of_getElem? (i := 5) rfl)) (hts (.initialized "java/lang/Math") (List.mem_of_getElem? (i := 6) rfl)) (hts (.code Lib.Math.min.name Lib.Math.min.code 2 (some .int)) (List.mem_of_getElem? (i := 7) rfl)) (Nat.le_of_ble_eq_true rfl) (Nat.le_of_ble_eq_true rfl) (Nat.zero_le _) (Nat.zero_le _) dX3_init_24 ?_
  refine va_mmax hx hb (by rw [hml]; exact hl.1.symm) hown (hts (.methodLink RX3 17 Lib.Math.max.name) (List.mem_of_getElem? (i := 8) rfl)) (hts (.static Lib.Math.max.name) (List.mem_of_getElem? (i := 9) rfl)) (hts (.initialized "java/lang/Math") (List.mem_of_getElem? (i := 6) rfl)) (hts (.code Lib.Math.max.name Lib.Math.max.code 2 (some .int)) (List.mem_of_getElem? (i := 10) rfl)) (Nat.le_of_ble_eq_true rfl) (Nat.le_of_ble_eq_true rfl) (Nat.zero_le _) (Nat.zero_le _) dX3_init_27 ?_
  rw [show ((if 1 < (if a2 < 132 then a2 else 132) then (if a2 < 132 then a2 else 132) else 1) : Int32) = nI k from hk3]
  refine va_putF (D := (dC, dI)) (ci := 4) (v := .int (nI k)) (C := RX3) (T := TX3) (N := 8) hx hb hts uu_X3_init_X3 tyX3 tyX3_ok nmX3 hown hK hP hD hS 0 rfl rfl 1 (by decide) (hts (.fieldLink RX3 24 "BlockScreen$Screen" "allColumns" "I") (List.mem_of_getElem? (i := 12) rfl)) (fun _ h9 => h9) rfl hnm rfl (tyX3_ok 1 (by decide)) rfl rfl (Nat.le_of_ble_eq_true rfl) dX3_init_30 (fun H locs hP hD hS => ?_)
  have hP : va_P (dC, dI) vwCl ([(o, .inr (4, [.int (nI r), .int (nI k), .null, .int 0, .int 0, .int 0, .int 0, .int 0]))]) H := hP
  have hD : va_D A ([(o, .inr (4, [.int (nI r), .int (nI k), .null, .int 0, .int 0, .int 0, .int 0, .int 0]))]) := hD
  refine lv_aload_n hx hb dX3_init_33 rfl (lv_at hl 0 rfl) ?_
  refine lv_aload_n hx hb dX3_init_34 rfl (lv_at hl 0 rfl) ?_
  refine va_get (D := (dC, dI)) (ci := 4) (v := .int (nI r)) (C := RX3) (T := TX3) (N := 8) hx hb hts uu_X3_init_X3 hown hK hP 0 rfl rfl 0 (by decide) (hts (.fieldLink RX3 20 "BlockScreen$Screen" "allRows" "I") (List.mem_of_getElem? (i := 11) rfl)) (fun _ h9 => h9) rfl dX3_init_35 ?_
  refine lv_aload_n hx hb dX3_init_38 rfl (lv_at hl 0 rfl) ?_
  refine va_get (D := (dC, dI)) (ci := 4) (v := .int (nI k)) (C := RX3) (T := TX3) (N := 8) hx hb hts uu_X3_init_X3 hown hK hP 0 rfl rfl 1 (by decide) (hts (.fieldLink RX3 24 "BlockScreen$Screen" "allColumns" "I") (List.mem_of_getElem? (i := 12) rfl)) (fun _ h9 => h9) rfl dX3_init_39 ?_
  refine lv_imul hx hb dX3_init_42 ?_
  have z1a : (Cond.arrayClass (newarray.typeOf .int)).before ([.ref o, .int a1, .int a2] : List Value).toArray s = true := hts (.arrayClass .int) (List.mem_of_getElem? (i := 13) rfl)
  refine va_newa (atype := .int) (ty := .int) (n := ((nI r) * (nI k))) (N' := (r * k)) (a0 := ((r * k), .inl (fun _ => 0))) hx hb z1a rfl hK hP hD hS hA (fun cA => rfl) (by rw [ek]; exact nI_pos (by have := Nat.mul_le_mul hr2 hk2; omega)) (by rw [ek]; exact nI_clamp (by have := Nat.mul_le_mul hr2 hk2; omega)) (by show (r * k) * 4 ≤ _; have := Nat.mul_le_mul hr2 hk2; omega) (by show 0 + 1 ≤ 1; omega) (by show 0 + (r * k) ≤ (r * k); omega) dX3_init_43 (fun nA_1 cA H hK2 hP hD hS => ?_)
  have hcA : cI = cA := (same_arrT (ty := .int) (by decide) hK2 2 0 rfl rfl).symm
  subst hcA
  have hP : va_P (dC, dI) vwCl ([(o, .inr (4, [.int (nI r), .int (nI k), .null, .int 0, .int 0, .int 0, .int 0, .int 0])), (nA_1, .inl (cI, (r * k), .inl (fun _ => 0)))]) H := hP
  have hD : va_D A ([(o, .inr (4, [.int (nI r), .int (nI k), .null, .int 0, .int 0, .int 0, .int 0, .int 0])), (nA_1, .inl (cI, (r * k), .inl (fun _ => 0)))]) := hD
  refine va_putF (D := (dC, dI)) (ci := 4) (v := .ref nA_1) (C := RX3) (T := TX3) (N := 8) hx hb hts uu_X3_init_X3 tyX3 tyX3_ok nmX3 hown hK hP hD hS 0 rfl rfl 2 (by decide) (hts (.fieldLink RX3 27 "BlockScreen$Screen" "cells" "[I") (List.mem_of_getElem? (i := 14) rfl)) (fun _ h9 => h9) rfl hnm rfl (tyX3_ok 2 (by decide)) rfl rfl (Nat.le_of_ble_eq_true rfl) dX3_init_45 (fun H locs hP hD hS => ?_)
  have hP : va_P (dC, dI) vwCl ([(o, .inr (4, [.int (nI r), .int (nI k), .ref nA_1, .int 0, .int 0, .int 0, .int 0, .int 0])), (nA_1, .inl (cI, (r * k), .inl (fun _ => 0)))]) H := hP
  have hD : va_D A ([(o, .inr (4, [.int (nI r), .int (nI k), .ref nA_1, .int 0, .int 0, .int 0, .int 0, .int 0])), (nA_1, .inl (cI, (r * k), .inl (fun _ => 0)))]) := hD
  refine lv_aload_n hx hb dX3_init_48 rfl (lv_at hl 0 rfl) ?_
  refine lv_aload_n hx hb dX3_init_49 rfl (lv_at hl 0 rfl) ?_
  refine va_get (D := (dC, dI)) (ci := 4) (v := .int (nI r)) (C := RX3) (T := TX3) (N := 8) hx hb hts uu_X3_init_X3 hown hK hP 0 rfl rfl 0 (by decide) (hts (.fieldLink RX3 20 "BlockScreen$Screen" "allRows" "I") (List.mem_of_getElem? (i := 11) rfl)) (fun _ h9 => h9) rfl dX3_init_50 ?_
  refine va_put (D := (dC, dI)) (ci := 4) (v := .int (nI r)) (C := RX3) (T := TX3) (N := 8) hx hb hts uu_X3_init_X3 tyX3 tyX3_ok nmX3 hown hK hP hD hS 0 rfl rfl 3 (by decide) (hts (.fieldLink RX3 31 "BlockScreen$Screen" "rows" "I") (List.mem_of_getElem? (i := 15) rfl)) (fun _ h9 => h9) rfl (tyX3_ok 3 (by decide)) rfl rfl (Nat.le_of_ble_eq_true rfl) dX3_init_53 (fun H locs hP hD hS => ?_)
  have hP : va_P (dC, dI) vwCl ([(o, .inr (4, [.int (nI r), .int (nI k), .ref nA_1, .int (nI r), .int 0, .int 0, .int 0, .int 0])), (nA_1, .inl (cI, (r * k), .inl (fun _ => 0)))]) H := hP
  have hD : va_D A ([(o, .inr (4, [.int (nI r), .int (nI k), .ref nA_1, .int (nI r), .int 0, .int 0, .int 0, .int 0])), (nA_1, .inl (cI, (r * k), .inl (fun _ => 0)))]) := hD
  refine lv_aload_n hx hb dX3_init_56 rfl (lv_at hl 0 rfl) ?_
  refine lv_aload_n hx hb dX3_init_57 rfl (lv_at hl 0 rfl) ?_
  refine va_get (D := (dC, dI)) (ci := 4) (v := .int (nI k)) (C := RX3) (T := TX3) (N := 8) hx hb hts uu_X3_init_X3 hown hK hP 0 rfl rfl 1 (by decide) (hts (.fieldLink RX3 24 "BlockScreen$Screen" "allColumns" "I") (List.mem_of_getElem? (i := 12) rfl)) (fun _ h9 => h9) rfl dX3_init_58 ?_
  refine va_put (D := (dC, dI)) (ci := 4) (v := .int (nI k)) (C := RX3) (T := TX3) (N := 8) hx hb hts uu_X3_init_X3 tyX3 tyX3_ok nmX3 hown hK hP hD hS 0 rfl rfl 4 (by decide) (hts (.fieldLink RX3 34 "BlockScreen$Screen" "columns" "I") (List.mem_of_getElem? (i := 16) rfl)) (fun _ h9 => h9) rfl (tyX3_ok 4 (by decide)) rfl rfl (Nat.le_of_ble_eq_true rfl) dX3_init_61 (fun H locs hP hD hS => ?_)
  have hP : va_P (dC, dI) vwCl ([(o, .inr (4, [.int (nI r), .int (nI k), .ref nA_1, .int (nI r), .int (nI k), .int 0, .int 0, .int 0])), (nA_1, .inl (cI, (r * k), .inl (fun _ => 0)))]) H := hP
  have hD : va_D A ([(o, .inr (4, [.int (nI r), .int (nI k), .ref nA_1, .int (nI r), .int (nI k), .int 0, .int 0, .int 0])), (nA_1, .inl (cI, (r * k), .inl (fun _ => 0)))]) := hD
  refine lv_aload_n hx hb dX3_init_64 rfl (lv_at hl 0 rfl) ?_
  refine lv_aload_n hx hb dX3_init_65 rfl (lv_at hl 0 rfl) ?_
  refine va_get (D := (dC, dI)) (ci := 4) (v := .int (nI r)) (C := RX3) (T := TX3) (N := 8) hx hb hts uu_X3_init_X3 hown hK hP 0 rfl rfl 0 (by decide) (hts (.fieldLink RX3 20 "BlockScreen$Screen" "allRows" "I") (List.mem_of_getElem? (i := 11) rfl)) (fun _ h9 => h9) rfl dX3_init_66 ?_
  refine lv_aload_n hx hb dX3_init_69 rfl (lv_at hl 0 rfl) ?_
  refine va_get (D := (dC, dI)) (ci := 4) (v := .int (nI k)) (C := RX3) (T := TX3) (N := 8) hx hb hts uu_X3_init_X3 hown hK hP 0 rfl rfl 1 (by decide) (hts (.fieldLink RX3 24 "BlockScreen$Screen" "allColumns" "I") (List.mem_of_getElem? (i := 12) rfl)) (fun _ h9 => h9) rfl dX3_init_70 ?_
  refine lv_imul hx hb dX3_init_73 ?_
  refine va_put (D := (dC, dI)) (ci := 4) (v := .int ((nI r) * (nI k))) (C := RX3) (T := TX3) (N := 8) hx hb hts uu_X3_init_X3 tyX3 tyX3_ok nmX3 hown hK hP hD hS 0 rfl rfl 5 (by decide) (hts (.fieldLink RX3 37 "BlockScreen$Screen" "size" "I") (List.mem_of_getElem? (i := 17) rfl)) (fun _ h9 => h9) rfl (tyX3_ok 5 (by decide)) rfl rfl (Nat.le_of_ble_eq_true rfl) dX3_init_74 (fun H locs hP hD hS => ?_)
  have hP : va_P (dC, dI) vwCl ([(o, .inr (4, [.int (nI r), .int (nI k), .ref nA_1, .int (nI r), .int (nI k), .int ((nI r) * (nI k)), .int 0, .int 0])), (nA_1, .inl (cI, (r * k), .inl (fun _ => 0)))]) H := hP
  have hD : va_D A ([(o, .inr (4, [.int (nI r), .int (nI k), .ref nA_1, .int (nI r), .int (nI k), .int ((nI r) * (nI k)), .int 0, .int 0])), (nA_1, .inl (cI, (r * k), .inl (fun _ => 0)))]) := hD
  refine lv_aload_n hx hb dX3_init_77 rfl (lv_at hl 0 rfl) ?_
  refine lv_iconst (v := 0) hx hb dX3_init_78 (by decide) ?_
  refine va_put (D := (dC, dI)) (ci := 4) (v := .int 0) (C := RX3) (T := TX3) (N := 8) hx hb hts uu_X3_init_X3 tyX3 tyX3_ok nmX3 hown hK hP hD hS 0 rfl rfl 6 (by decide) (hts (.fieldLink RX3 40 "BlockScreen$Screen" "fields" "I") (List.mem_of_getElem? (i := 18) rfl)) (fun _ h9 => h9) rfl (tyX3_ok 6 (by decide)) rfl rfl (Nat.le_of_ble_eq_true rfl) dX3_init_79 (fun H locs hP hD hS => ?_)
  have hP : va_P (dC, dI) vwCl ([(o, .inr (4, [.int (nI r), .int (nI k), .ref nA_1, .int (nI r), .int (nI k), .int ((nI r) * (nI k)), .int 0, .int 0])), (nA_1, .inl (cI, (r * k), .inl (fun _ => 0)))]) H := hP
  have hD : va_D A ([(o, .inr (4, [.int (nI r), .int (nI k), .ref nA_1, .int (nI r), .int (nI k), .int ((nI r) * (nI k)), .int 0, .int 0])), (nA_1, .inl (cI, (r * k), .inl (fun _ => 0)))]) := hD
  refine lv_aload_n hx hb dX3_init_82 rfl (lv_at hl 0 rfl) ?_
  refine lv_iconst (v := 0) hx hb dX3_init_83 (by decide) ?_
  refine va_put (D := (dC, dI)) (ci := 4) (v := .int 0) (C := RX3) (T := TX3) (N := 8) hx hb hts uu_X3_init_X3 tyX3 tyX3_ok nmX3 hown hK hP hD hS 0 rfl rfl 7 (by decide) (hts (.fieldLink RX3 43 "BlockScreen$Screen" "cursor" "I") (List.mem_of_getElem? (i := 19) rfl)) (fun _ h9 => h9) rfl (tyX3_ok 7 (by decide)) rfl rfl (Nat.le_of_ble_eq_true rfl) dX3_init_84 (fun H locs hP hD hS => ?_)
  have hP : va_P (dC, dI) vwCl ([(o, .inr (4, [.int (nI r), .int (nI k), .ref nA_1, .int (nI r), .int (nI k), .int ((nI r) * (nI k)), .int 0, .int 0])), (nA_1, .inl (cI, (r * k), .inl (fun _ => 0)))]) H := hP
  have hD : va_D A ([(o, .inr (4, [.int (nI r), .int (nI k), .ref nA_1, .int (nI r), .int (nI k), .int ((nI r) * (nI k)), .int 0, .int 0])), (nA_1, .inl (cI, (r * k), .inl (fun _ => 0)))]) := hD
  refine W.widen (k := 1) (n := (r * k)) (by omega) (by omega) ?_
  exact my_retv nA_1 hx hb hr hlocks hK hP hD hS dX3_init_87
def E_X4_init (U : State) : Prop := va_Nw (.methodLinkNest RX4 17 yX0_init "BlockScreen") U
theorem E_X4_init_b : Blind E_X4_init := fun U g mk a h => va_Nw.same rfl rfl h
theorem uu_X4_init_X0 : ∀ w ∈ u_ws RX0 TX0 2, w ∈ wsX4_init := fun _ h => List.mem_cons_of_mem _ (List.mem_append_right _ h)
theorem uu_X4_init_X4 : ∀ w ∈ u_ws RX4 TX4 3, w ∈ wsX4_init := fun _ h => List.mem_cons_of_mem _ (List.mem_append_left _ (List.mem_append_right _ h))
set_option maxHeartbeats 400000 in
set_option maxRecDepth 100000 in
theorem c_X4_init (l : Launch) (dC : Nat → ClassId) (dI : Nat → Nat → Nat) (cI cB : ClassId) (o oS : Nat) (sz : Nat)  : Met l yX4_init wsX4_init ({ frames := 2, cells := 2, slots := 66, locals := 32 }) (va_Pc [.ref o, .ref oS] (my_PreE E_X4_init (dC, dI) [(cI, .int), (cB, .byte)] [(o, .inr (5, [.null, .null, .int 0]))] sz)) (my_Qv (S := Nat × Nat) (dC, dI) [(cI, .int), (cB, .byte)] (fun u => [(o, .inr (5, [.ref oS, .ref u.1, .int 96])), (u.1, .inr (1, [.ref u.2, .int 0])), (u.2, .inl (cB, 64, .inl (fun _ => 0)))]) (va_A [(o, .inr (5, [.null, .null, .int 0]))] sz)) 2 66 (va_A [(o, .inr (5, [.null, .null, .int 0]))] sz) := by
  refine my_enterE (E := E_X4_init) (y := yX4_init) (ws := wsX4_init) (av := [.ref o, .ref oS]) (W0 := [(o, .inr (5, [.null, .null, .int 0]))]) (sz := sz) (D := (dC, dI)) (tys := [(cI, .int), (cB, .byte)]) (cc := cX4_init) (maxL := 2) (ret := none) (Qc := my_Qv (S := Nat × Nat) (dC, dI) [(cI, .int), (cB, .byte)] (fun u => [(o, .inr (5, [.ref oS, .ref u.1, .int 96])), (u.1, .inr (1, [.ref u.2, .int 0])), (u.2, .inl (cB, 64, .inl (fun _ => 0)))])) (by decide) rfl (Nat.le_of_ble_eq_true rfl) ?_
  intro p e s m below meth c A ls hN hx hb hr hml hts hown hlocks hnm hP hK hD hA hS hl
  have hown : s.vm.findClass RX4 = some m.cls := hown
  have hnm : meth.name = "<init>" := hnm
  have hl : lv_has ls 2 [(0, .ref o), (1, .ref oS)] := hl
  refine lv_aload_n hx hb dX4_init_0 rfl (lv_at hl 0 rfl) ?_
  refine W.objInit hx hb hown (hts (.methodLink RX4 3 objectInit) (List.mem_of_getElem? (i := 1) rfl)) (hts (.instanceMethod objectInit) (List.mem_of_getElem? (i := 2) rfl)) (hts (.code objectInit ⟨#[0xb1]⟩ 1 none) (List.mem_of_getElem? (i := 3) rfl)) rfl (by rw [hml]; exact hl.1) rfl dX4_init_1 (Nat.le_of_ble_eq_true rfl) (Nat.le_of_ble_eq_true rfl) ?_
  refine W.eq (g2 := F0 m 4 ls []) rfl ?_
  refine lv_aload_n hx hb dX4_init_4 rfl (lv_at hl 0 rfl) ?_
  refine lv_aload_n hx hb dX4_init_5 rfl (lv_at hl 1 rfl) ?_
  refine va_putF (D := (dC, dI)) (ci := 5) (v := .ref oS) (C := RX4) (T := TX4) (N := 3) hx hb hts uu_X4_init_X4 tyX4 tyX4_ok nmX4 hown hK hP hD hS 0 rfl rfl 0 (by decide) (hts (.fieldLink RX4 9 "BlockScreen$Sender" "screen" "LBlockScreen$Screen;") (List.mem_of_getElem? (i := 4) rfl)) (fun _ h9 => h9) rfl hnm rfl (tyX4_ok 0 (by decide)) rfl rfl (Nat.le_of_ble_eq_true rfl) dX4_init_6 (fun H locs hP hD hS => ?_)
  have hP : va_P (dC, dI) vwCl ([(o, .inr (5, [.ref oS, .null, .int 0]))]) H := hP
  have hD : va_D A ([(o, .inr (5, [.ref oS, .null, .int 0]))]) := hD
  refine lv_aload_n hx hb dX4_init_9 rfl (lv_at hl 0 rfl) ?_
  refine va_new (ci := 1) (fs := [.null, .int 0]) (C := RX0) (T := TX0) (N := 2) hx hb hts uu_X4_init_X0 tyX0 tyX0_ok hown (hts (.classLink RX4 15 RX0) (List.mem_of_getElem? (i := 5) rfl)) (hts (.instantiable RX0 2) (List.mem_of_getElem? (i := 6) rfl)) (hts (.initialized RX0) (List.mem_of_getElem? (i := 7) rfl)) hK hP hD hS hA rfl (fun j hj => by rcases (show j = 0 ∨ j = 1 by omega) with rfl | rfl <;> rfl) (by show 0 + 1 ≤ 2; omega) (by show 0 + 2 ≤ 66; omega) dX4_init_10 (fun nX0_1 H hP hD hS => ?_)
  have hP : va_P (dC, dI) vwCl ([(o, .inr (5, [.ref oS, .null, .int 0])), (nX0_1, .inr (1, [.null, .int 0]))]) H := hP
  have hD : va_D A ([(o, .inr (5, [.ref oS, .null, .int 0])), (nX0_1, .inr (1, [.null, .int 0]))]) := hD
  refine lv_dup hx hb dX4_init_13 rfl ?_
  refine my_jIN (As := []) (rest := [.ref nX0_1, .ref o]) (wc := [(nX0_1, .inr (1, [.null, .int 0]))]) (wr := [(o, .inr (5, [.ref oS, .null, .int 0]))]) ⟨hx, hb, hml, hown, hts⟩ (c_X0_init l dC dI cI cB nX0_1 _) ⟨va_cnB 0 hts gX4_init_X0_init_n17 rfl rfl rfl hN (hts (.initialized RX0) (List.mem_of_getElem? (i := 7) rfl)) (by decide +kernel) ⟨Nat.le_of_ble_eq_true rfl, Nat.le_of_ble_eq_true rfl⟩, rfl, (hts (.instanceMethod yX0_init) (List.mem_of_getElem? (i := 10) rfl))⟩ hK hP hD hS hA [0, 1] [1] [0] rfl rfl rfl rfl rfl rfl (by decide) rfl hl.1 rfl (Nat.le_of_ble_eq_true rfl) dX4_init_14 ⟨by show (0 + 1) + 1 ≤ 2; omega, by show (0 + 2) + 64 ≤ 66; omega⟩ (fun u_14 H locs hP hD hS => ?_)
  have hP : va_P (dC, dI) vwCl ([(o, .inr (5, [.ref oS, .null, .int 0])), (nX0_1, .inr (1, [.ref u_14, .int 0])), (u_14, .inl (cB, 64, .inl (fun _ => 0)))]) H := hP
  have hD : va_D A ([(o, .inr (5, [.ref oS, .null, .int 0])), (nX0_1, .inr (1, [.ref u_14, .int 0])), (u_14, .inl (cB, 64, .inl (fun _ => 0)))]) := hD
  refine va_putF (D := (dC, dI)) (ci := 5) (v := .ref nX0_1) (C := RX4) (T := TX4) (N := 3) hx hb hts uu_X4_init_X4 tyX4 tyX4_ok nmX4 hown hK hP hD hS 0 rfl rfl 1 (by decide) (hts (.fieldLink RX4 18 "BlockScreen$Sender" "waiting" "LBlockScreen$ByteRow;") (List.mem_of_getElem? (i := 8) rfl)) (fun _ h9 => h9) rfl hnm rfl (tyX4_ok 1 (by decide)) rfl rfl (Nat.le_of_ble_eq_true rfl) dX4_init_17 (fun H locs hP hD hS => ?_)
  have hP : va_P (dC, dI) vwCl ([(o, .inr (5, [.ref oS, .ref nX0_1, .int 0])), (nX0_1, .inr (1, [.ref u_14, .int 0])), (u_14, .inl (cB, 64, .inl (fun _ => 0)))]) H := hP
  have hD : va_D A ([(o, .inr (5, [.ref oS, .ref nX0_1, .int 0])), (nX0_1, .inr (1, [.ref u_14, .int 0])), (u_14, .inl (cB, 64, .inl (fun _ => 0)))]) := hD
  refine lv_aload_n hx hb dX4_init_20 rfl (lv_at hl 0 rfl) ?_
  refine lv_bipush (v := 96) hx hb dX4_init_21 (by decide) ?_
  refine va_put (D := (dC, dI)) (ci := 5) (v := .int 96) (C := RX4) (T := TX4) (N := 3) hx hb hts uu_X4_init_X4 tyX4 tyX4_ok nmX4 hown hK hP hD hS 0 rfl rfl 2 (by decide) (hts (.fieldLink RX4 22 "BlockScreen$Sender" "latestKey" "I") (List.mem_of_getElem? (i := 9) rfl)) (fun _ h9 => h9) rfl (tyX4_ok 2 (by decide)) rfl rfl (Nat.le_of_ble_eq_true rfl) dX4_init_23 (fun H locs hP hD hS => ?_)
  have hP : va_P (dC, dI) vwCl ([(o, .inr (5, [.ref oS, .ref nX0_1, .int 96])), (nX0_1, .inr (1, [.ref u_14, .int 0])), (u_14, .inl (cB, 64, .inl (fun _ => 0)))]) H := hP
  have hD : va_D A ([(o, .inr (5, [.ref oS, .ref nX0_1, .int 96])), (nX0_1, .inr (1, [.ref u_14, .int 0])), (u_14, .inl (cB, 64, .inl (fun _ => 0)))]) := hD
  exact my_retv (nX0_1, u_14) hx hb hr hlocks hK hP hD hS dX4_init_26
def E_X1_init (U : State) : Prop := va_Nw (.methodLinkNest RX1 25 yX0_init "BlockScreen") U
theorem E_X1_init_b : Blind E_X1_init := fun U g mk a h => va_Nw.same rfl rfl h
theorem uu_X1_init_X0 : ∀ w ∈ u_ws RX0 TX0 2, w ∈ wsX1_init := fun _ h => List.mem_cons_of_mem _ (List.mem_append_right _ h)
theorem uu_X1_init_X1 : ∀ w ∈ u_ws RX1 TX1 10, w ∈ wsX1_init := fun _ h => List.mem_cons_of_mem _ (List.mem_append_left _ (List.mem_append_right _ h))
set_option maxHeartbeats 400000 in
set_option maxRecDepth 100000 in
theorem c_X1_init (l : Launch) (dC : Nat → ClassId) (dI : Nat → Nat → Nat) (cI cB : ClassId) (o oS oN oK : Nat) (sz : Nat)  : Met l yX1_init wsX1_init ({ frames := 2, cells := 2, slots := 66, locals := 32 }) (va_Pc [.ref o, .ref oS, .ref oN, .ref oK] (my_PreE E_X1_init (dC, dI) [(cI, .int), (cB, .byte)] [(o, .inr (2, [.null, .null, .null, .null, .int 0, .int 0, .int 0, .int 0, .int 0, .int 0]))] sz)) (my_Qv (S := Nat × Nat) (dC, dI) [(cI, .int), (cB, .byte)] (fun u => [(o, .inr (2, [.ref oS, .ref oN, .ref oK, .ref u.1, .int 0, .int 0, .int 0, .int 0, .int 0, .int 0])), (u.1, .inr (1, [.ref u.2, .int 0])), (u.2, .inl (cB, 64, .inl (fun _ => 0)))]) (va_A [(o, .inr (2, [.null, .null, .null, .null, .int 0, .int 0, .int 0, .int 0, .int 0, .int 0]))] sz)) 2 66 (va_A [(o, .inr (2, [.null, .null, .null, .null, .int 0, .int 0, .int 0, .int 0, .int 0, .int 0]))] sz) := by
  refine my_enterE (E := E_X1_init) (y := yX1_init) (ws := wsX1_init) (av := [.ref o, .ref oS, .ref oN, .ref oK]) (W0 := [(o, .inr (2, [.null, .null, .null, .null, .int 0, .int 0, .int 0, .int 0, .int 0, .int 0]))]) (sz := sz) (D := (dC, dI)) (tys := [(cI, .int), (cB, .byte)]) (cc := cX1_init) (maxL := 4) (ret := none) (Qc := my_Qv (S := Nat × Nat) (dC, dI) [(cI, .int), (cB, .byte)] (fun u => [(o, .inr (2, [.ref oS, .ref oN, .ref oK, .ref u.1, .int 0, .int 0, .int 0, .int 0, .int 0, .int 0])), (u.1, .inr (1, [.ref u.2, .int 0])), (u.2, .inl (cB, 64, .inl (fun _ => 0)))])) (by decide) rfl (Nat.le_of_ble_eq_true rfl) ?_
  intro p e s m below meth c A ls hN hx hb hr hml hts hown hlocks hnm hP hK hD hA hS hl
  have hown : s.vm.findClass RX1 = some m.cls := hown
  have hnm : meth.name = "<init>" := hnm
  have hl : lv_has ls 4 [(0, .ref o), (1, .ref oS), (2, .ref oN), (3, .ref oK)] := hl
  refine lv_aload_n hx hb dX1_init_0 rfl (lv_at hl 0 rfl) ?_
  refine W.objInit hx hb hown (hts (.methodLink RX1 3 objectInit) (List.mem_of_getElem? (i := 1) rfl)) (hts (.instanceMethod objectInit) (List.mem_of_getElem? (i := 2) rfl)) (hts (.code objectInit ⟨#[0xb1]⟩ 1 none) (List.mem_of_getElem? (i := 3) rfl)) rfl (by rw [hml]; exact hl.1) rfl dX1_init_1 (Nat.le_of_ble_eq_true rfl) (Nat.le_of_ble_eq_true rfl) ?_
  refine W.eq (g2 := F0 m 4 ls []) rfl ?_
  refine lv_aload_n hx hb dX1_init_4 rfl (lv_at hl 0 rfl) ?_
  refine lv_aload_n hx hb dX1_init_5 rfl (lv_at hl 1 rfl) ?_
  refine va_putF (D := (dC, dI)) (ci := 2) (v := .ref oS) (C := RX1) (T := TX1) (N := 10) hx hb hts uu_X1_init_X1 tyX1 tyX1_ok nmX1 hown hK hP hD hS 0 rfl rfl 0 (by decide) (hts (.fieldLink RX1 9 "BlockScreen$HostStream" "screen" "LBlockScreen$Screen;") (List.mem_of_getElem? (i := 4) rfl)) (fun _ h9 => h9) rfl hnm rfl (tyX1_ok 0 (by decide)) rfl rfl (Nat.le_of_ble_eq_true rfl) dX1_init_6 (fun H locs hP hD hS => ?_)
  have hP : va_P (dC, dI) vwCl ([(o, .inr (2, [.ref oS, .null, .null, .null, .int 0, .int 0, .int 0, .int 0, .int 0, .int 0]))]) H := hP
  have hD : va_D A ([(o, .inr (2, [.ref oS, .null, .null, .null, .int 0, .int 0, .int 0, .int 0, .int 0, .int 0]))]) := hD
  refine lv_aload_n hx hb dX1_init_9 rfl (lv_at hl 0 rfl) ?_
  refine lv_aload_n hx hb dX1_init_10 rfl (lv_at hl 2 rfl) ?_
  refine va_putF (D := (dC, dI)) (ci := 2) (v := .ref oN) (C := RX1) (T := TX1) (N := 10) hx hb hts uu_X1_init_X1 tyX1 tyX1_ok nmX1 hown hK hP hD hS 0 rfl rfl 1 (by decide) (hts (.fieldLink RX1 15 "BlockScreen$HostStream" "sender" "LBlockScreen$Sender;") (List.mem_of_getElem? (i := 5) rfl)) (fun _ h9 => h9) rfl hnm rfl (tyX1_ok 1 (by decide)) rfl rfl (Nat.le_of_ble_eq_true rfl) dX1_init_11 (fun H locs hP hD hS => ?_)
  have hP : va_P (dC, dI) vwCl ([(o, .inr (2, [.ref oS, .ref oN, .null, .null, .int 0, .int 0, .int 0, .int 0, .int 0, .int 0]))]) H := hP
  have hD : va_D A ([(o, .inr (2, [.ref oS, .ref oN, .null, .null, .int 0, .int 0, .int 0, .int 0, .int 0, .int 0]))]) := hD
  refine lv_aload_n hx hb dX1_init_14 rfl (lv_at hl 0 rfl) ?_
  refine lv_aload_n hx hb dX1_init_15 rfl (lv_at hl 3 rfl) ?_
  refine va_putF (D := (dC, dI)) (ci := 2) (v := .ref oK) (C := RX1) (T := TX1) (N := 10) hx hb hts uu_X1_init_X1 tyX1 tyX1_ok nmX1 hown hK hP hD hS 0 rfl rfl 2 (by decide) (hts (.fieldLink RX1 19 "BlockScreen$HostStream" "keyboard" "LBlockScreen$Keyboard;") (List.mem_of_getElem? (i := 6) rfl)) (fun _ h9 => h9) rfl hnm rfl (tyX1_ok 2 (by decide)) rfl rfl (Nat.le_of_ble_eq_true rfl) dX1_init_16 (fun H locs hP hD hS => ?_)
  have hP : va_P (dC, dI) vwCl ([(o, .inr (2, [.ref oS, .ref oN, .ref oK, .null, .int 0, .int 0, .int 0, .int 0, .int 0, .int 0]))]) H := hP
  have hD : va_D A ([(o, .inr (2, [.ref oS, .ref oN, .ref oK, .null, .int 0, .int 0, .int 0, .int 0, .int 0, .int 0]))]) := hD
  refine lv_aload_n hx hb dX1_init_19 rfl (lv_at hl 0 rfl) ?_
  refine va_new (ci := 1) (fs := [.null, .int 0]) (C := RX0) (T := TX0) (N := 2) hx hb hts uu_X1_init_X0 tyX0 tyX0_ok hown (hts (.classLink RX1 23 RX0) (List.mem_of_getElem? (i := 7) rfl)) (hts (.instantiable RX0 2) (List.mem_of_getElem? (i := 8) rfl)) (hts (.initialized RX0) (List.mem_of_getElem? (i := 9) rfl)) hK hP hD hS hA rfl (fun j hj => by rcases (show j = 0 ∨ j = 1 by omega) with rfl | rfl <;> rfl) (by show 0 + 1 ≤ 2; omega) (by show 0 + 2 ≤ 66; omega) dX1_init_20 (fun nX0_1 H hP hD hS => ?_)
  have hP : va_P (dC, dI) vwCl ([(o, .inr (2, [.ref oS, .ref oN, .ref oK, .null, .int 0, .int 0, .int 0, .int 0, .int 0, .int 0])), (nX0_1, .inr (1, [.null, .int 0]))]) H := hP
  have hD : va_D A ([(o, .inr (2, [.ref oS, .ref oN, .ref oK, .null, .int 0, .int 0, .int 0, .int 0, .int 0, .int 0])), (nX0_1, .inr (1, [.null, .int 0]))]) := hD
  refine lv_dup hx hb dX1_init_23 rfl ?_
  refine my_jIN (As := []) (rest := [.ref nX0_1, .ref o]) (wc := [(nX0_1, .inr (1, [.null, .int 0]))]) (wr := [(o, .inr (2, [.ref oS, .ref oN, .ref oK, .null, .int 0, .int 0, .int 0, .int 0, .int 0, .int 0]))]) ⟨hx, hb, hml, hown, hts⟩ (c_X0_init l dC dI cI cB nX0_1 _) ⟨va_cnB 0 hts gX1_init_X0_init_n25 rfl rfl rfl hN (hts (.initialized RX0) (List.mem_of_getElem? (i := 9) rfl)) (by decide +kernel) ⟨Nat.le_of_ble_eq_true rfl, Nat.le_of_ble_eq_true rfl⟩, rfl, (hts (.instanceMethod yX0_init) (List.mem_of_getElem? (i := 17) rfl))⟩ hK hP hD hS hA [0, 1] [1] [0] rfl rfl rfl rfl rfl rfl (by decide) rfl hl.1 rfl (Nat.le_of_ble_eq_true rfl) dX1_init_24 ⟨by show (0 + 1) + 1 ≤ 2; omega, by show (0 + 2) + 64 ≤ 66; omega⟩ (fun u_24 H locs hP hD hS => ?_)
  have hP : va_P (dC, dI) vwCl ([(o, .inr (2, [.ref oS, .ref oN, .ref oK, .null, .int 0, .int 0, .int 0, .int 0, .int 0, .int 0])), (nX0_1, .inr (1, [.ref u_24, .int 0])), (u_24, .inl (cB, 64, .inl (fun _ => 0)))]) H := hP
  have hD : va_D A ([(o, .inr (2, [.ref oS, .ref oN, .ref oK, .null, .int 0, .int 0, .int 0, .int 0, .int 0, .int 0])), (nX0_1, .inr (1, [.ref u_24, .int 0])), (u_24, .inl (cB, 64, .inl (fun _ => 0)))]) := hD
  refine va_putF (D := (dC, dI)) (ci := 2) (v := .ref nX0_1) (C := RX1) (T := TX1) (N := 10) hx hb hts uu_X1_init_X1 tyX1 tyX1_ok nmX1 hown hK hP hD hS 0 rfl rfl 3 (by decide) (hts (.fieldLink RX1 26 "BlockScreen$HostStream" "bytes" "LBlockScreen$ByteRow;") (List.mem_of_getElem? (i := 10) rfl)) (fun _ h9 => h9) rfl hnm rfl (tyX1_ok 3 (by decide)) rfl rfl (Nat.le_of_ble_eq_true rfl) dX1_init_27 (fun H locs hP hD hS => ?_)
  have hP : va_P (dC, dI) vwCl ([(o, .inr (2, [.ref oS, .ref oN, .ref oK, .ref nX0_1, .int 0, .int 0, .int 0, .int 0, .int 0, .int 0])), (nX0_1, .inr (1, [.ref u_24, .int 0])), (u_24, .inl (cB, 64, .inl (fun _ => 0)))]) H := hP
  have hD : va_D A ([(o, .inr (2, [.ref oS, .ref oN, .ref oK, .ref nX0_1, .int 0, .int 0, .int 0, .int 0, .int 0, .int 0])), (nX0_1, .inr (1, [.ref u_24, .int 0])), (u_24, .inl (cB, 64, .inl (fun _ => 0)))]) := hD
  refine lv_aload_n hx hb dX1_init_30 rfl (lv_at hl 0 rfl) ?_
  refine lv_iconst (v := 0) hx hb dX1_init_31 (by decide) ?_
  refine va_put (D := (dC, dI)) (ci := 2) (v := .int 0) (C := RX1) (T := TX1) (N := 10) hx hb hts uu_X1_init_X1 tyX1 tyX1_ok nmX1 hown hK hP hD hS 0 rfl rfl 4 (by decide) (hts (.fieldLink RX1 30 "BlockScreen$HostStream" "spoiled" "Z") (List.mem_of_getElem? (i := 11) rfl)) (fun _ h9 => h9) rfl (tyX1_ok 4 (by decide)) rfl rfl (Nat.le_of_ble_eq_true rfl) dX1_init_32 (fun H locs hP hD hS => ?_)
  have hP : va_P (dC, dI) vwCl ([(o, .inr (2, [.ref oS, .ref oN, .ref oK, .ref nX0_1, .int 0, .int 0, .int 0, .int 0, .int 0, .int 0])), (nX0_1, .inr (1, [.ref u_24, .int 0])), (u_24, .inl (cB, 64, .inl (fun _ => 0)))]) H := hP
  have hD : va_D A ([(o, .inr (2, [.ref oS, .ref oN, .ref oK, .ref nX0_1, .int 0, .int 0, .int 0, .int 0, .int 0, .int 0])), (nX0_1, .inr (1, [.ref u_24, .int 0])), (u_24, .inl (cB, 64, .inl (fun _ => 0)))]) := hD
  refine lv_aload_n hx hb dX1_init_35 rfl (lv_at hl 0 rfl) ?_
  refine lv_iconst (v := 0) hx hb dX1_init_36 (by decide) ?_
  refine va_put (D := (dC, dI)) (ci := 2) (v := .int 0) (C := RX1) (T := TX1) (N := 10) hx hb hts uu_X1_init_X1 tyX1 tyX1_ok nmX1 hown hK hP hD hS 0 rfl rfl 5 (by decide) (hts (.fieldLink RX1 34 "BlockScreen$HostStream" "position" "I") (List.mem_of_getElem? (i := 12) rfl)) (fun _ h9 => h9) rfl (tyX1_ok 5 (by decide)) rfl rfl (Nat.le_of_ble_eq_true rfl) dX1_init_37 (fun H locs hP hD hS => ?_)
  have hP : va_P (dC, dI) vwCl ([(o, .inr (2, [.ref oS, .ref oN, .ref oK, .ref nX0_1, .int 0, .int 0, .int 0, .int 0, .int 0, .int 0])), (nX0_1, .inr (1, [.ref u_24, .int 0])), (u_24, .inl (cB, 64, .inl (fun _ => 0)))]) H := hP
  have hD : va_D A ([(o, .inr (2, [.ref oS, .ref oN, .ref oK, .ref nX0_1, .int 0, .int 0, .int 0, .int 0, .int 0, .int 0])), (nX0_1, .inr (1, [.ref u_24, .int 0])), (u_24, .inl (cB, 64, .inl (fun _ => 0)))]) := hD
  refine lv_aload_n hx hb dX1_init_40 rfl (lv_at hl 0 rfl) ?_
  refine lv_iconst (v := 0) hx hb dX1_init_41 (by decide) ?_
  refine va_put (D := (dC, dI)) (ci := 2) (v := .int 0) (C := RX1) (T := TX1) (N := 10) hx hb hts uu_X1_init_X1 tyX1 tyX1_ok nmX1 hown hK hP hD hS 0 rfl rfl 6 (by decide) (hts (.fieldLink RX1 38 "BlockScreen$HostStream" "place" "I") (List.mem_of_getElem? (i := 13) rfl)) (fun _ h9 => h9) rfl (tyX1_ok 6 (by decide)) rfl rfl (Nat.le_of_ble_eq_true rfl) dX1_init_42 (fun H locs hP hD hS => ?_)
  have hP : va_P (dC, dI) vwCl ([(o, .inr (2, [.ref oS, .ref oN, .ref oK, .ref nX0_1, .int 0, .int 0, .int 0, .int 0, .int 0, .int 0])), (nX0_1, .inr (1, [.ref u_24, .int 0])), (u_24, .inl (cB, 64, .inl (fun _ => 0)))]) H := hP
  have hD : va_D A ([(o, .inr (2, [.ref oS, .ref oN, .ref oK, .ref nX0_1, .int 0, .int 0, .int 0, .int 0, .int 0, .int 0])), (nX0_1, .inr (1, [.ref u_24, .int 0])), (u_24, .inl (cB, 64, .inl (fun _ => 0)))]) := hD
  refine lv_aload_n hx hb dX1_init_45 rfl (lv_at hl 0 rfl) ?_
  refine lv_iconst (v := 0) hx hb dX1_init_46 (by decide) ?_
  refine va_put (D := (dC, dI)) (ci := 2) (v := .int 0) (C := RX1) (T := TX1) (N := 10) hx hb hts uu_X1_init_X1 tyX1 tyX1_ok nmX1 hown hK hP hD hS 0 rfl rfl 7 (by decide) (hts (.fieldLink RX1 41 "BlockScreen$HostStream" "signJustPut" "Z") (List.mem_of_getElem? (i := 14) rfl)) (fun _ h9 => h9) rfl (tyX1_ok 7 (by decide)) rfl rfl (Nat.le_of_ble_eq_true rfl) dX1_init_47 (fun H locs hP hD hS => ?_)
  have hP : va_P (dC, dI) vwCl ([(o, .inr (2, [.ref oS, .ref oN, .ref oK, .ref nX0_1, .int 0, .int 0, .int 0, .int 0, .int 0, .int 0])), (nX0_1, .inr (1, [.ref u_24, .int 0])), (u_24, .inl (cB, 64, .inl (fun _ => 0)))]) H := hP
  have hD : va_D A ([(o, .inr (2, [.ref oS, .ref oN, .ref oK, .ref nX0_1, .int 0, .int 0, .int 0, .int 0, .int 0, .int 0])), (nX0_1, .inr (1, [.ref u_24, .int 0])), (u_24, .inl (cB, 64, .inl (fun _ => 0)))]) := hD
  refine lv_aload_n hx hb dX1_init_50 rfl (lv_at hl 0 rfl) ?_
  refine lv_iconst (v := 0) hx hb dX1_init_51 (by decide) ?_
  refine va_put (D := (dC, dI)) (ci := 2) (v := .int 0) (C := RX1) (T := TX1) (N := 10) hx hb hts uu_X1_init_X1 tyX1 tyX1_ok nmX1 hown hK hP hD hS 0 rfl rfl 8 (by decide) (hts (.fieldLink RX1 44 "BlockScreen$HostStream" "ordersDone" "I") (List.mem_of_getElem? (i := 15) rfl)) (fun _ h9 => h9) rfl (tyX1_ok 8 (by decide)) rfl rfl (Nat.le_of_ble_eq_true rfl) dX1_init_52 (fun H locs hP hD hS => ?_)
  have hP : va_P (dC, dI) vwCl ([(o, .inr (2, [.ref oS, .ref oN, .ref oK, .ref nX0_1, .int 0, .int 0, .int 0, .int 0, .int 0, .int 0])), (nX0_1, .inr (1, [.ref u_24, .int 0])), (u_24, .inl (cB, 64, .inl (fun _ => 0)))]) H := hP
  have hD : va_D A ([(o, .inr (2, [.ref oS, .ref oN, .ref oK, .ref nX0_1, .int 0, .int 0, .int 0, .int 0, .int 0, .int 0])), (nX0_1, .inr (1, [.ref u_24, .int 0])), (u_24, .inl (cB, 64, .inl (fun _ => 0)))]) := hD
  refine lv_aload_n hx hb dX1_init_55 rfl (lv_at hl 0 rfl) ?_
  refine lv_iconst (v := 0) hx hb dX1_init_56 (by decide) ?_
  refine va_put (D := (dC, dI)) (ci := 2) (v := .int 0) (C := RX1) (T := TX1) (N := 10) hx hb hts uu_X1_init_X1 tyX1 tyX1_ok nmX1 hown hK hP hD hS 0 rfl rfl 9 (by decide) (hts (.fieldLink RX1 47 "BlockScreen$HostStream" "alarms" "I") (List.mem_of_getElem? (i := 16) rfl)) (fun _ h9 => h9) rfl (tyX1_ok 9 (by decide)) rfl rfl (Nat.le_of_ble_eq_true rfl) dX1_init_57 (fun H locs hP hD hS => ?_)
  have hP : va_P (dC, dI) vwCl ([(o, .inr (2, [.ref oS, .ref oN, .ref oK, .ref nX0_1, .int 0, .int 0, .int 0, .int 0, .int 0, .int 0])), (nX0_1, .inr (1, [.ref u_24, .int 0])), (u_24, .inl (cB, 64, .inl (fun _ => 0)))]) H := hP
  have hD : va_D A ([(o, .inr (2, [.ref oS, .ref oN, .ref oK, .ref nX0_1, .int 0, .int 0, .int 0, .int 0, .int 0, .int 0])), (nX0_1, .inr (1, [.ref u_24, .int 0])), (u_24, .inl (cB, 64, .inl (fun _ => 0)))]) := hD
  exact my_retv (nX0_1, u_24) hx hb hr hlocks hK hP hD hS dX1_init_60
theorem uu_X2_init_X2 : ∀ w ∈ u_ws RX2 TX2 4, w ∈ wsX2_init := fun _ h => List.mem_cons_of_mem _ (List.mem_append_right _ h)
set_option maxHeartbeats 400000 in
set_option maxRecDepth 100000 in
theorem c_X2_init (l : Launch) (dC : Nat → ClassId) (dI : Nat → Nat → Nat) (cI cB : ClassId) (o oS oN : Nat) (sz : Nat)  : Met l yX2_init wsX2_init ({ frames := 1, cells := 0, slots := 0, locals := 12 }) (va_Pc [.ref o, .ref oS, .ref oN] (my_Pre (dC, dI) [(cI, .int), (cB, .byte)] [(o, .inr (3, [.null, .null, .int 0, .int 0]))] sz)) (my_Qv (S := Unit) (dC, dI) [(cI, .int), (cB, .byte)] (fun _ => [(o, .inr (3, [.ref oS, .ref oN, .int 1, .int 0]))]) (va_A [(o, .inr (3, [.null, .null, .int 0, .int 0]))] sz)) 0 0 (va_A [(o, .inr (3, [.null, .null, .int 0, .int 0]))] sz) := by
  refine my_enter (y := yX2_init) (ws := wsX2_init) (av := [.ref o, .ref oS, .ref oN]) (W0 := [(o, .inr (3, [.null, .null, .int 0, .int 0]))]) (sz := sz) (D := (dC, dI)) (tys := [(cI, .int), (cB, .byte)]) (cc := cX2_init) (maxL := 3) (ret := none) (Qc := my_Qv (S := Unit) (dC, dI) [(cI, .int), (cB, .byte)] (fun _ => [(o, .inr (3, [.ref oS, .ref oN, .int 1, .int 0]))])) (by decide) rfl (Nat.le_of_ble_eq_true rfl) ?_
  intro p e s m below meth c A ls hx hb hr hml hts hown hlocks hnm hP hK hD hA hS hl
  have hown : s.vm.findClass RX2 = some m.cls := hown
  have hnm : meth.name = "<init>" := hnm
  have hl : lv_has ls 3 [(0, .ref o), (1, .ref oS), (2, .ref oN)] := hl
  refine lv_aload_n hx hb dX2_init_0 rfl (lv_at hl 0 rfl) ?_
  refine W.objInit hx hb hown (hts (.methodLink RX2 3 objectInit) (List.mem_of_getElem? (i := 1) rfl)) (hts (.instanceMethod objectInit) (List.mem_of_getElem? (i := 2) rfl)) (hts (.code objectInit ⟨#[0xb1]⟩ 1 none) (List.mem_of_getElem? (i := 3) rfl)) rfl (by rw [hml]; exact hl.1) rfl dX2_init_1 (Nat.le_of_ble_eq_true rfl) (Nat.le_of_ble_eq_true rfl) ?_
  refine W.eq (g2 := F0 m 4 ls []) rfl ?_
  refine lv_aload_n hx hb dX2_init_4 rfl (lv_at hl 0 rfl) ?_
  refine lv_aload_n hx hb dX2_init_5 rfl (lv_at hl 1 rfl) ?_
  refine va_putF (D := (dC, dI)) (ci := 3) (v := .ref oS) (C := RX2) (T := TX2) (N := 4) hx hb hts uu_X2_init_X2 tyX2 tyX2_ok nmX2 hown hK hP hD hS 0 rfl rfl 0 (by decide) (hts (.fieldLink RX2 9 "BlockScreen$Keyboard" "screen" "LBlockScreen$Screen;") (List.mem_of_getElem? (i := 4) rfl)) (fun _ h9 => h9) rfl hnm rfl (tyX2_ok 0 (by decide)) rfl rfl (Nat.le_of_ble_eq_true rfl) dX2_init_6 (fun H locs hP hD hS => ?_)
  have hP : va_P (dC, dI) vwCl ([(o, .inr (3, [.ref oS, .null, .int 0, .int 0]))]) H := hP
  have hD : va_D A ([(o, .inr (3, [.ref oS, .null, .int 0, .int 0]))]) := hD
  refine lv_aload_n hx hb dX2_init_9 rfl (lv_at hl 0 rfl) ?_
  refine lv_aload_n hx hb dX2_init_10 rfl (lv_at hl 2 rfl) ?_
  refine va_putF (D := (dC, dI)) (ci := 3) (v := .ref oN) (C := RX2) (T := TX2) (N := 4) hx hb hts uu_X2_init_X2 tyX2 tyX2_ok nmX2 hown hK hP hD hS 0 rfl rfl 1 (by decide) (hts (.fieldLink RX2 15 "BlockScreen$Keyboard" "sender" "LBlockScreen$Sender;") (List.mem_of_getElem? (i := 5) rfl)) (fun _ h9 => h9) rfl hnm rfl (tyX2_ok 1 (by decide)) rfl rfl (Nat.le_of_ble_eq_true rfl) dX2_init_11 (fun H locs hP hD hS => ?_)
  have hP : va_P (dC, dI) vwCl ([(o, .inr (3, [.ref oS, .ref oN, .int 0, .int 0]))]) H := hP
  have hD : va_D A ([(o, .inr (3, [.ref oS, .ref oN, .int 0, .int 0]))]) := hD
  refine lv_aload_n hx hb dX2_init_14 rfl (lv_at hl 0 rfl) ?_
  refine lv_iconst (v := 1) hx hb dX2_init_15 (by decide) ?_
  refine va_put (D := (dC, dI)) (ci := 3) (v := .int 1) (C := RX2) (T := TX2) (N := 4) hx hb hts uu_X2_init_X2 tyX2 tyX2_ok nmX2 hown hK hP hD hS 0 rfl rfl 2 (by decide) (hts (.fieldLink RX2 19 "BlockScreen$Keyboard" "isLocked" "Z") (List.mem_of_getElem? (i := 6) rfl)) (fun _ h9 => h9) rfl (tyX2_ok 2 (by decide)) rfl rfl (Nat.le_of_ble_eq_true rfl) dX2_init_16 (fun H locs hP hD hS => ?_)
  have hP : va_P (dC, dI) vwCl ([(o, .inr (3, [.ref oS, .ref oN, .int 1, .int 0]))]) H := hP
  have hD : va_D A ([(o, .inr (3, [.ref oS, .ref oN, .int 1, .int 0]))]) := hD
  refine lv_aload_n hx hb dX2_init_19 rfl (lv_at hl 0 rfl) ?_
  refine lv_iconst (v := 0) hx hb dX2_init_20 (by decide) ?_
  refine va_put (D := (dC, dI)) (ci := 3) (v := .int 0) (C := RX2) (T := TX2) (N := 4) hx hb hts uu_X2_init_X2 tyX2 tyX2_ok nmX2 hown hK hP hD hS 0 rfl rfl 3 (by decide) (hts (.fieldLink RX2 23 "BlockScreen$Keyboard" "inserts" "Z") (List.mem_of_getElem? (i := 7) rfl)) (fun _ h9 => h9) rfl (tyX2_ok 3 (by decide)) rfl rfl (Nat.le_of_ble_eq_true rfl) dX2_init_21 (fun H locs hP hD hS => ?_)
  have hP : va_P (dC, dI) vwCl ([(o, .inr (3, [.ref oS, .ref oN, .int 1, .int 0]))]) H := hP
  have hD : va_D A ([(o, .inr (3, [.ref oS, .ref oN, .int 1, .int 0]))]) := hD
  exact my_retv () hx hb hr hlocks hK hP hD hS dX2_init_24
def E_X5_init (U : State) : Prop := E_X4_init U ∧ E_X1_init U
theorem E_X5_init_b : Blind E_X5_init := fun U g mk a h => ⟨E_X4_init_b U g mk a h.1, E_X1_init_b U g mk a h.2⟩
theorem uu_X5_init_X1 : ∀ w ∈ u_ws RX1 TX1 10, w ∈ wsX5_init := fun _ h => List.mem_cons_of_mem _ (List.mem_append_left _ (List.mem_append_right _ h))
theorem uu_X5_init_X2 : ∀ w ∈ u_ws RX2 TX2 4, w ∈ wsX5_init := fun _ h => List.mem_cons_of_mem _ (List.mem_append_left _ (List.mem_append_left _ (List.mem_append_right _ h)))
theorem uu_X5_init_X3 : ∀ w ∈ u_ws RX3 TX3 8, w ∈ wsX5_init := fun _ h => List.mem_cons_of_mem _ (List.mem_append_left _ (List.mem_append_left _ (List.mem_append_left _ (List.mem_append_left _ (List.mem_append_left _ (List.mem_append_right _ h))))))
theorem uu_X5_init_X4 : ∀ w ∈ u_ws RX4 TX4 3, w ∈ wsX5_init := fun _ h => List.mem_cons_of_mem _ (List.mem_append_left _ (List.mem_append_left _ (List.mem_append_left _ (List.mem_append_right _ h))))
theorem uu_X5_init_X5 : ∀ w ∈ u_ws RX5 TX5 6, w ∈ wsX5_init := fun _ h => List.mem_cons_of_mem _ (List.mem_append_left _ (List.mem_append_left _ (List.mem_append_left _ (List.mem_append_left _ (List.mem_append_right _ h)))))
set_option maxHeartbeats 400000 in
set_option maxRecDepth 100000 in
theorem c_X5_init (l : Launch) (dC : Nat → ClassId) (dI : Nat → Nat → Nat) (cI cB : ClassId) (o : Nat) (a1 a2 : Int32) (r k : Nat) (sz : Nat) (hr1 : 1 ≤ r) (hr2 : r ≤ 43) (hr3 : clR a1 = nI r) (hk1 : 1 ≤ k) (hk2 : k ≤ 132) (hk3 : clC a2 = nI k) : Met l yX5_init wsX5_init ({ frames := 3, cells := 9, slots := (157 + r * k), locals := 55 }) (va_Pc [.ref o, .int a1, .int a2] (my_PreE E_X5_init (dC, dI) [(cI, .int), (cB, .byte)] [(o, .inr (6, [.null, .null, .null, .null, .int 0, .int 0]))] sz)) (my_Qv (S := Nat → Nat) (dC, dI) [(cI, .int), (cB, .byte)] (fun u => wX o (u 0) (u 1) (u 2) (u 3) (u 4) (u 5) (u 6) (u 7) (u 8) cI cB false 0 (nI r) (nI k) (nI r) (nI k) (nI r * nI k) 0 0 (r * k) (fun _ => 0) 96 0 64 (fun _ => 0) true false false 0 0 false 0 0 0 64 (fun _ => 0)) (va_A [(o, .inr (6, [.null, .null, .null, .null, .int 0, .int 0]))] sz)) 9 (157 + r * k) (va_A [(o, .inr (6, [.null, .null, .null, .null, .int 0, .int 0]))] sz) := by
  refine my_enterE (E := E_X5_init) (y := yX5_init) (ws := wsX5_init) (av := [.ref o, .int a1, .int a2]) (W0 := [(o, .inr (6, [.null, .null, .null, .null, .int 0, .int 0]))]) (sz := sz) (D := (dC, dI)) (tys := [(cI, .int), (cB, .byte)]) (cc := cX5_init) (maxL := 3) (ret := none) (Qc := my_Qv (S := Nat → Nat) (dC, dI) [(cI, .int), (cB, .byte)] (fun u => wX o (u 0) (u 1) (u 2) (u 3) (u 4) (u 5) (u 6) (u 7) (u 8) cI cB false 0 (nI r) (nI k) (nI r) (nI k) (nI r * nI k) 0 0 (r * k) (fun _ => 0) 96 0 64 (fun _ => 0) true false false 0 0 false 0 0 0 64 (fun _ => 0))) (by decide) rfl (Nat.le_of_ble_eq_true rfl) ?_
  intro p e s m below meth c A ls hN hx hb hr hml hts hown hlocks hnm hP hK hD hA hS hl
  have hown : s.vm.findClass RX5 = some m.cls := hown
  have hnm : meth.name = "<init>" := hnm
  have hl : lv_has ls 3 [(0, .ref o), (1, .int a1), (2, .int a2)] := hl
  refine lv_aload_n hx hb dX5_init_0 rfl (lv_at hl 0 rfl) ?_
  refine W.objInit hx hb hown (hts (.methodLink RX5 1 objectInit) (List.mem_of_getElem? (i := 1) rfl)) (hts (.instanceMethod objectInit) (List.mem_of_getElem? (i := 2) rfl)) (hts (.code objectInit ⟨#[0xb1]⟩ 1 none) (List.mem_of_getElem? (i := 3) rfl)) rfl (by rw [hml]; exact hl.1) rfl dX5_init_1 (Nat.le_of_ble_eq_true rfl) (Nat.le_of_ble_eq_true rfl) ?_
  refine W.eq (g2 := F0 m 4 ls []) rfl ?_
  refine lv_aload_n hx hb dX5_init_4 rfl (lv_at hl 0 rfl) ?_
  refine va_new (ci := 4) (fs := [.int 0, .int 0, .null, .int 0, .int 0, .int 0, .int 0, .int 0]) (C := RX3) (T := TX3) (N := 8) hx hb hts uu_X5_init_X3 tyX3 tyX3_ok hown (hts (.classLink RX5 7 RX3) (List.mem_of_getElem? (i := 4) rfl)) (hts (.instantiable RX3 8) (List.mem_of_getElem? (i := 5) rfl)) (hts (.initialized RX3) (List.mem_of_getElem? (i := 6) rfl)) hK hP hD hS hA rfl (fun j hj => by rcases (show j = 0 ∨ j = 1 ∨ j = 2 ∨ j = 3 ∨ j = 4 ∨ j = 5 ∨ j = 6 ∨ j = 7 by omega) with rfl | rfl | rfl | rfl | rfl | rfl | rfl | rfl <;> rfl) (by show 0 + 1 ≤ 9; omega) (by show 0 + 8 ≤ (157 + r * k); omega) dX5_init_5 (fun nX3_1 H hP hD hS => ?_)
  have hP : va_P (dC, dI) vwCl ([(o, .inr (6, [.null, .null, .null, .null, .int 0, .int 0])), (nX3_1, .inr (4, [.int 0, .int 0, .null, .int 0, .int 0, .int 0, .int 0, .int 0]))]) H := hP
  have hD : va_D A ([(o, .inr (6, [.null, .null, .null, .null, .int 0, .int 0])), (nX3_1, .inr (4, [.int 0, .int 0, .null, .int 0, .int 0, .int 0, .int 0, .int 0]))]) := hD
  refine lv_dup hx hb dX5_init_8 rfl ?_
  refine lv_iload_n hx hb dX5_init_9 rfl (lv_at hl 1 rfl) ?_
  refine lv_iload_n hx hb dX5_init_10 rfl (lv_at hl 2 rfl) ?_
  refine my_jI0 (As := [.int a1, .int a2]) (rest := [.ref nX3_1, .ref o]) (wc := [(nX3_1, .inr (4, [.int 0, .int 0, .null, .int 0, .int 0, .int 0, .int 0, .int 0]))]) (wr := [(o, .inr (6, [.null, .null, .null, .null, .int 0, .int 0]))]) ⟨hx, hb, hml, hown, hts⟩ (c_X3_init l dC dI cI cB nX3_1 a1 a2 r k _ hr1 hr2 hr3 hk1 hk2 hk3) (cwI 2 hts gX5_init_X3_init rfl rfl rfl (hts (.initialized RX3) (List.mem_of_getElem? (i := 6) rfl)) (hts (.methodLink RX5 9 yX3_init) (List.mem_of_getElem? (i := 22) rfl)) (hts (.instanceMethod yX3_init) (List.mem_of_getElem? (i := 23) rfl)) rfl (by decide +kernel) ⟨Nat.le_of_ble_eq_true rfl, Nat.le_of_ble_eq_true rfl⟩) hK hP hD hS hA [0, 1] [1] [0] rfl rfl rfl rfl rfl rfl (by decide) rfl hl.1 rfl (Nat.le_of_ble_eq_true rfl) dX5_init_11 ⟨by show (0 + 1) + 1 ≤ 9; omega, by show (0 + 8) + (r * k) ≤ (157 + r * k); omega⟩ (fun u_11 H locs hP hD hS => ?_)
  have hP : va_P (dC, dI) vwCl ([(o, .inr (6, [.null, .null, .null, .null, .int 0, .int 0])), (nX3_1, .inr (4, [.int (nI r), .int (nI k), .ref u_11, .int (nI r), .int (nI k), .int (nI r * nI k), .int 0, .int 0])), (u_11, .inl (cI, (r * k), .inl (fun _ => 0)))]) H := hP
  have hD : va_D A ([(o, .inr (6, [.null, .null, .null, .null, .int 0, .int 0])), (nX3_1, .inr (4, [.int (nI r), .int (nI k), .ref u_11, .int (nI r), .int (nI k), .int (nI r * nI k), .int 0, .int 0])), (u_11, .inl (cI, (r * k), .inl (fun _ => 0)))]) := hD
  refine va_putF (D := (dC, dI)) (ci := 6) (v := .ref nX3_1) (C := RX5) (T := TX5) (N := 6) hx hb hts uu_X5_init_X5 tyX5 tyX5_ok nmX5 hown hK hP hD hS 0 rfl rfl 0 (by decide) (hts (.fieldLink RX5 12 "BlockScreen" "screen" "LBlockScreen$Screen;") (List.mem_of_getElem? (i := 7) rfl)) (fun _ h9 => h9) rfl hnm rfl (tyX5_ok 0 (by decide)) rfl rfl (Nat.le_of_ble_eq_true rfl) dX5_init_14 (fun H locs hP hD hS => ?_)
  have hP : va_P (dC, dI) vwCl ([(o, .inr (6, [.ref nX3_1, .null, .null, .null, .int 0, .int 0])), (nX3_1, .inr (4, [.int (nI r), .int (nI k), .ref u_11, .int (nI r), .int (nI k), .int (nI r * nI k), .int 0, .int 0])), (u_11, .inl (cI, (r * k), .inl (fun _ => 0)))]) H := hP
  have hD : va_D A ([(o, .inr (6, [.ref nX3_1, .null, .null, .null, .int 0, .int 0])), (nX3_1, .inr (4, [.int (nI r), .int (nI k), .ref u_11, .int (nI r), .int (nI k), .int (nI r * nI k), .int 0, .int 0])), (u_11, .inl (cI, (r * k), .inl (fun _ => 0)))]) := hD
  refine lv_aload_n hx hb dX5_init_17 rfl (lv_at hl 0 rfl) ?_
  refine va_new (ci := 5) (fs := [.null, .null, .int 0]) (C := RX4) (T := TX4) (N := 3) hx hb hts uu_X5_init_X4 tyX4 tyX4_ok hown (hts (.classLink RX5 18 RX4) (List.mem_of_getElem? (i := 8) rfl)) (hts (.instantiable RX4 3) (List.mem_of_getElem? (i := 9) rfl)) (hts (.initialized RX4) (List.mem_of_getElem? (i := 10) rfl)) hK hP hD hS hA rfl (fun j hj => by rcases (show j = 0 ∨ j = 1 ∨ j = 2 by omega) with rfl | rfl | rfl <;> rfl) (by show ((0 + 1) + 1) + 1 ≤ 9; omega) (by show ((0 + 8) + (r * k)) + 3 ≤ (157 + r * k); omega) dX5_init_18 (fun nX4_2 H hP hD hS => ?_)
  have hP : va_P (dC, dI) vwCl ([(o, .inr (6, [.ref nX3_1, .null, .null, .null, .int 0, .int 0])), (nX3_1, .inr (4, [.int (nI r), .int (nI k), .ref u_11, .int (nI r), .int (nI k), .int (nI r * nI k), .int 0, .int 0])), (u_11, .inl (cI, (r * k), .inl (fun _ => 0))), (nX4_2, .inr (5, [.null, .null, .int 0]))]) H := hP
  have hD : va_D A ([(o, .inr (6, [.ref nX3_1, .null, .null, .null, .int 0, .int 0])), (nX3_1, .inr (4, [.int (nI r), .int (nI k), .ref u_11, .int (nI r), .int (nI k), .int (nI r * nI k), .int 0, .int 0])), (u_11, .inl (cI, (r * k), .inl (fun _ => 0))), (nX4_2, .inr (5, [.null, .null, .int 0]))]) := hD
  refine lv_dup hx hb dX5_init_21 rfl ?_
  refine lv_aload_n hx hb dX5_init_22 rfl (lv_at hl 0 rfl) ?_
  refine va_get (D := (dC, dI)) (ci := 6) (v := .ref nX3_1) (C := RX5) (T := TX5) (N := 6) hx hb hts uu_X5_init_X5 hown hK hP 0 rfl rfl 0 (by decide) (hts (.fieldLink RX5 12 "BlockScreen" "screen" "LBlockScreen$Screen;") (List.mem_of_getElem? (i := 7) rfl)) (fun _ h9 => h9) rfl dX5_init_23 ?_
  refine my_jI (As := [.ref nX3_1]) (rest := [.ref nX4_2, .ref o]) (wc := [(nX4_2, .inr (5, [.null, .null, .int 0]))]) (wr := [(o, .inr (6, [.ref nX3_1, .null, .null, .null, .int 0, .int 0])), (nX3_1, .inr (4, [.int (nI r), .int (nI k), .ref u_11, .int (nI r), .int (nI k), .int (nI r * nI k), .int 0, .int 0])), (u_11, .inl (cI, (r * k), .inl (fun _ => 0)))]) ⟨hx, hb, hml, hown, hts⟩ (c_X4_init l dC dI cI cB nX4_2 nX3_1 _) (cwI 1 hts gX5_init_X4_init rfl rfl rfl (hts (.initialized RX4) (List.mem_of_getElem? (i := 10) rfl)) (hts (.methodLink RX5 20 yX4_init) (List.mem_of_getElem? (i := 42) rfl)) (hts (.instanceMethod yX4_init) (List.mem_of_getElem? (i := 43) rfl)) rfl (by decide +kernel) ⟨Nat.le_of_ble_eq_true rfl, Nat.le_of_ble_eq_true rfl⟩) E_X4_init_b (fun U hW => va_Nw.warmM hW hN.1) hK hP hD hS hA [0, 1] [3] [0, 1, 2] rfl rfl rfl rfl rfl rfl (by decide) rfl hl.1 rfl (Nat.le_of_ble_eq_true rfl) dX5_init_26 ⟨by show (((0 + 1) + 1) + 1) + 2 ≤ 9; omega, by show (((0 + 8) + (r * k)) + 3) + 66 ≤ (157 + r * k); omega⟩ (fun u_26 H locs hP hD hS => ?_)
  have hP : va_P (dC, dI) vwCl ([(o, .inr (6, [.ref nX3_1, .null, .null, .null, .int 0, .int 0])), (nX3_1, .inr (4, [.int (nI r), .int (nI k), .ref u_11, .int (nI r), .int (nI k), .int (nI r * nI k), .int 0, .int 0])), (u_11, .inl (cI, (r * k), .inl (fun _ => 0))), (nX4_2, .inr (5, [.ref nX3_1, .ref u_26.1, .int 96])), (u_26.1, .inr (1, [.ref u_26.2, .int 0])), (u_26.2, .inl (cB, 64, .inl (fun _ => 0)))]) H := hP
  have hD : va_D A ([(o, .inr (6, [.ref nX3_1, .null, .null, .null, .int 0, .int 0])), (nX3_1, .inr (4, [.int (nI r), .int (nI k), .ref u_11, .int (nI r), .int (nI k), .int (nI r * nI k), .int 0, .int 0])), (u_11, .inl (cI, (r * k), .inl (fun _ => 0))), (nX4_2, .inr (5, [.ref nX3_1, .ref u_26.1, .int 96])), (u_26.1, .inr (1, [.ref u_26.2, .int 0])), (u_26.2, .inl (cB, 64, .inl (fun _ => 0)))]) := hD
  refine va_putF (D := (dC, dI)) (ci := 6) (v := .ref nX4_2) (C := RX5) (T := TX5) (N := 6) hx hb hts uu_X5_init_X5 tyX5 tyX5_ok nmX5 hown hK hP hD hS 0 rfl rfl 1 (by decide) (hts (.fieldLink RX5 23 "BlockScreen" "sender" "LBlockScreen$Sender;") (List.mem_of_getElem? (i := 11) rfl)) (fun _ h9 => h9) rfl hnm rfl (tyX5_ok 1 (by decide)) rfl rfl (Nat.le_of_ble_eq_true rfl) dX5_init_29 (fun H locs hP hD hS => ?_)
  have hP : va_P (dC, dI) vwCl ([(o, .inr (6, [.ref nX3_1, .ref nX4_2, .null, .null, .int 0, .int 0])), (nX3_1, .inr (4, [.int (nI r), .int (nI k), .ref u_11, .int (nI r), .int (nI k), .int (nI r * nI k), .int 0, .int 0])), (u_11, .inl (cI, (r * k), .inl (fun _ => 0))), (nX4_2, .inr (5, [.ref nX3_1, .ref u_26.1, .int 96])), (u_26.1, .inr (1, [.ref u_26.2, .int 0])), (u_26.2, .inl (cB, 64, .inl (fun _ => 0)))]) H := hP
  have hD : va_D A ([(o, .inr (6, [.ref nX3_1, .ref nX4_2, .null, .null, .int 0, .int 0])), (nX3_1, .inr (4, [.int (nI r), .int (nI k), .ref u_11, .int (nI r), .int (nI k), .int (nI r * nI k), .int 0, .int 0])), (u_11, .inl (cI, (r * k), .inl (fun _ => 0))), (nX4_2, .inr (5, [.ref nX3_1, .ref u_26.1, .int 96])), (u_26.1, .inr (1, [.ref u_26.2, .int 0])), (u_26.2, .inl (cB, 64, .inl (fun _ => 0)))]) := hD
  refine lv_aload_n hx hb dX5_init_32 rfl (lv_at hl 0 rfl) ?_
  refine va_new (ci := 3) (fs := [.null, .null, .int 0, .int 0]) (C := RX2) (T := TX2) (N := 4) hx hb hts uu_X5_init_X2 tyX2 tyX2_ok hown (hts (.classLink RX5 27 RX2) (List.mem_of_getElem? (i := 12) rfl)) (hts (.instantiable RX2 4) (List.mem_of_getElem? (i := 13) rfl)) (hts (.initialized RX2) (List.mem_of_getElem? (i := 14) rfl)) hK hP hD hS hA rfl (fun j hj => by rcases (show j = 0 ∨ j = 1 ∨ j = 2 ∨ j = 3 by omega) with rfl | rfl | rfl | rfl <;> rfl) (by show ((((0 + 1) + 1) + 1) + 2) + 1 ≤ 9; omega) (by show ((((0 + 8) + (r * k)) + 3) + 66) + 4 ≤ (157 + r * k); omega) dX5_init_33 (fun nX2_3 H hP hD hS => ?_)
  have hP : va_P (dC, dI) vwCl ([(o, .inr (6, [.ref nX3_1, .ref nX4_2, .null, .null, .int 0, .int 0])), (nX3_1, .inr (4, [.int (nI r), .int (nI k), .ref u_11, .int (nI r), .int (nI k), .int (nI r * nI k), .int 0, .int 0])), (u_11, .inl (cI, (r * k), .inl (fun _ => 0))), (nX4_2, .inr (5, [.ref nX3_1, .ref u_26.1, .int 96])), (u_26.1, .inr (1, [.ref u_26.2, .int 0])), (u_26.2, .inl (cB, 64, .inl (fun _ => 0))), (nX2_3, .inr (3, [.null, .null, .int 0, .int 0]))]) H := hP
  have hD : va_D A ([(o, .inr (6, [.ref nX3_1, .ref nX4_2, .null, .null, .int 0, .int 0])), (nX3_1, .inr (4, [.int (nI r), .int (nI k), .ref u_11, .int (nI r), .int (nI k), .int (nI r * nI k), .int 0, .int 0])), (u_11, .inl (cI, (r * k), .inl (fun _ => 0))), (nX4_2, .inr (5, [.ref nX3_1, .ref u_26.1, .int 96])), (u_26.1, .inr (1, [.ref u_26.2, .int 0])), (u_26.2, .inl (cB, 64, .inl (fun _ => 0))), (nX2_3, .inr (3, [.null, .null, .int 0, .int 0]))]) := hD
  refine lv_dup hx hb dX5_init_36 rfl ?_
  refine lv_aload_n hx hb dX5_init_37 rfl (lv_at hl 0 rfl) ?_
  refine va_get (D := (dC, dI)) (ci := 6) (v := .ref nX3_1) (C := RX5) (T := TX5) (N := 6) hx hb hts uu_X5_init_X5 hown hK hP 0 rfl rfl 0 (by decide) (hts (.fieldLink RX5 12 "BlockScreen" "screen" "LBlockScreen$Screen;") (List.mem_of_getElem? (i := 7) rfl)) (fun _ h9 => h9) rfl dX5_init_38 ?_
  refine lv_aload_n hx hb dX5_init_41 rfl (lv_at hl 0 rfl) ?_
  refine va_get (D := (dC, dI)) (ci := 6) (v := .ref nX4_2) (C := RX5) (T := TX5) (N := 6) hx hb hts uu_X5_init_X5 hown hK hP 0 rfl rfl 1 (by decide) (hts (.fieldLink RX5 23 "BlockScreen" "sender" "LBlockScreen$Sender;") (List.mem_of_getElem? (i := 11) rfl)) (fun _ h9 => h9) rfl dX5_init_42 ?_
  refine my_jI0 (As := [.ref nX3_1, .ref nX4_2]) (rest := [.ref nX2_3, .ref o]) (wc := [(nX2_3, .inr (3, [.null, .null, .int 0, .int 0]))]) (wr := [(o, .inr (6, [.ref nX3_1, .ref nX4_2, .null, .null, .int 0, .int 0])), (nX3_1, .inr (4, [.int (nI r), .int (nI k), .ref u_11, .int (nI r), .int (nI k), .int (nI r * nI k), .int 0, .int 0])), (u_11, .inl (cI, (r * k), .inl (fun _ => 0))), (nX4_2, .inr (5, [.ref nX3_1, .ref u_26.1, .int 96])), (u_26.1, .inr (1, [.ref u_26.2, .int 0])), (u_26.2, .inl (cB, 64, .inl (fun _ => 0)))]) ⟨hx, hb, hml, hown, hts⟩ (c_X2_init l dC dI cI cB nX2_3 nX3_1 nX4_2 _) (cwI 2 hts gX5_init_X2_init rfl rfl rfl (hts (.initialized RX2) (List.mem_of_getElem? (i := 14) rfl)) (hts (.methodLink RX5 29 yX2_init) (List.mem_of_getElem? (i := 58) rfl)) (hts (.instanceMethod yX2_init) (List.mem_of_getElem? (i := 59) rfl)) rfl (by decide +kernel) ⟨Nat.le_of_ble_eq_true rfl, Nat.le_of_ble_eq_true rfl⟩) hK hP hD hS hA [0, 1] [6] [0, 1, 2, 3, 4, 5] rfl rfl rfl rfl rfl rfl (by decide) rfl hl.1 rfl (Nat.le_of_ble_eq_true rfl) dX5_init_45 ⟨by show (((((0 + 1) + 1) + 1) + 2) + 1) + 0 ≤ 9; omega, by show (((((0 + 8) + (r * k)) + 3) + 66) + 4) + 0 ≤ (157 + r * k); omega⟩ (fun u_45 H locs hP hD hS => ?_)
  have hP : va_P (dC, dI) vwCl ([(o, .inr (6, [.ref nX3_1, .ref nX4_2, .null, .null, .int 0, .int 0])), (nX3_1, .inr (4, [.int (nI r), .int (nI k), .ref u_11, .int (nI r), .int (nI k), .int (nI r * nI k), .int 0, .int 0])), (u_11, .inl (cI, (r * k), .inl (fun _ => 0))), (nX4_2, .inr (5, [.ref nX3_1, .ref u_26.1, .int 96])), (u_26.1, .inr (1, [.ref u_26.2, .int 0])), (u_26.2, .inl (cB, 64, .inl (fun _ => 0))), (nX2_3, .inr (3, [.ref nX3_1, .ref nX4_2, .int 1, .int 0]))]) H := hP
  have hD : va_D A ([(o, .inr (6, [.ref nX3_1, .ref nX4_2, .null, .null, .int 0, .int 0])), (nX3_1, .inr (4, [.int (nI r), .int (nI k), .ref u_11, .int (nI r), .int (nI k), .int (nI r * nI k), .int 0, .int 0])), (u_11, .inl (cI, (r * k), .inl (fun _ => 0))), (nX4_2, .inr (5, [.ref nX3_1, .ref u_26.1, .int 96])), (u_26.1, .inr (1, [.ref u_26.2, .int 0])), (u_26.2, .inl (cB, 64, .inl (fun _ => 0))), (nX2_3, .inr (3, [.ref nX3_1, .ref nX4_2, .int 1, .int 0]))]) := hD
  refine va_putF (D := (dC, dI)) (ci := 6) (v := .ref nX2_3) (C := RX5) (T := TX5) (N := 6) hx hb hts uu_X5_init_X5 tyX5 tyX5_ok nmX5 hown hK hP hD hS 0 rfl rfl 2 (by decide) (hts (.fieldLink RX5 32 "BlockScreen" "keyboard" "LBlockScreen$Keyboard;") (List.mem_of_getElem? (i := 15) rfl)) (fun _ h9 => h9) rfl hnm rfl (tyX5_ok 2 (by decide)) rfl rfl (Nat.le_of_ble_eq_true rfl) dX5_init_48 (fun H locs hP hD hS => ?_)
  have hP : va_P (dC, dI) vwCl ([(o, .inr (6, [.ref nX3_1, .ref nX4_2, .ref nX2_3, .null, .int 0, .int 0])), (nX3_1, .inr (4, [.int (nI r), .int (nI k), .ref u_11, .int (nI r), .int (nI k), .int (nI r * nI k), .int 0, .int 0])), (u_11, .inl (cI, (r * k), .inl (fun _ => 0))), (nX4_2, .inr (5, [.ref nX3_1, .ref u_26.1, .int 96])), (u_26.1, .inr (1, [.ref u_26.2, .int 0])), (u_26.2, .inl (cB, 64, .inl (fun _ => 0))), (nX2_3, .inr (3, [.ref nX3_1, .ref nX4_2, .int 1, .int 0]))]) H := hP
  have hD : va_D A ([(o, .inr (6, [.ref nX3_1, .ref nX4_2, .ref nX2_3, .null, .int 0, .int 0])), (nX3_1, .inr (4, [.int (nI r), .int (nI k), .ref u_11, .int (nI r), .int (nI k), .int (nI r * nI k), .int 0, .int 0])), (u_11, .inl (cI, (r * k), .inl (fun _ => 0))), (nX4_2, .inr (5, [.ref nX3_1, .ref u_26.1, .int 96])), (u_26.1, .inr (1, [.ref u_26.2, .int 0])), (u_26.2, .inl (cB, 64, .inl (fun _ => 0))), (nX2_3, .inr (3, [.ref nX3_1, .ref nX4_2, .int 1, .int 0]))]) := hD
  refine lv_aload_n hx hb dX5_init_51 rfl (lv_at hl 0 rfl) ?_
  refine va_new (ci := 2) (fs := [.null, .null, .null, .null, .int 0, .int 0, .int 0, .int 0, .int 0, .int 0]) (C := RX1) (T := TX1) (N := 10) hx hb hts uu_X5_init_X1 tyX1 tyX1_ok hown (hts (.classLink RX5 36 RX1) (List.mem_of_getElem? (i := 16) rfl)) (hts (.instantiable RX1 10) (List.mem_of_getElem? (i := 17) rfl)) (hts (.initialized RX1) (List.mem_of_getElem? (i := 18) rfl)) hK hP hD hS hA rfl (fun j hj => by rcases (show j = 0 ∨ j = 1 ∨ j = 2 ∨ j = 3 ∨ j = 4 ∨ j = 5 ∨ j = 6 ∨ j = 7 ∨ j = 8 ∨ j = 9 by omega) with rfl | rfl | rfl | rfl | rfl | rfl | rfl | rfl | rfl | rfl <;> rfl) (by show ((((((0 + 1) + 1) + 1) + 2) + 1) + 0) + 1 ≤ 9; omega) (by show ((((((0 + 8) + (r * k)) + 3) + 66) + 4) + 0) + 10 ≤ (157 + r * k); omega) dX5_init_52 (fun nX1_4 H hP hD hS => ?_)
  have hP : va_P (dC, dI) vwCl ([(o, .inr (6, [.ref nX3_1, .ref nX4_2, .ref nX2_3, .null, .int 0, .int 0])), (nX3_1, .inr (4, [.int (nI r), .int (nI k), .ref u_11, .int (nI r), .int (nI k), .int (nI r * nI k), .int 0, .int 0])), (u_11, .inl (cI, (r * k), .inl (fun _ => 0))), (nX4_2, .inr (5, [.ref nX3_1, .ref u_26.1, .int 96])), (u_26.1, .inr (1, [.ref u_26.2, .int 0])), (u_26.2, .inl (cB, 64, .inl (fun _ => 0))), (nX2_3, .inr (3, [.ref nX3_1, .ref nX4_2, .int 1, .int 0])), (nX1_4, .inr (2, [.null, .null, .null, .null, .int 0, .int 0, .int 0, .int 0, .int 0, .int 0]))]) H := hP
  have hD : va_D A ([(o, .inr (6, [.ref nX3_1, .ref nX4_2, .ref nX2_3, .null, .int 0, .int 0])), (nX3_1, .inr (4, [.int (nI r), .int (nI k), .ref u_11, .int (nI r), .int (nI k), .int (nI r * nI k), .int 0, .int 0])), (u_11, .inl (cI, (r * k), .inl (fun _ => 0))), (nX4_2, .inr (5, [.ref nX3_1, .ref u_26.1, .int 96])), (u_26.1, .inr (1, [.ref u_26.2, .int 0])), (u_26.2, .inl (cB, 64, .inl (fun _ => 0))), (nX2_3, .inr (3, [.ref nX3_1, .ref nX4_2, .int 1, .int 0])), (nX1_4, .inr (2, [.null, .null, .null, .null, .int 0, .int 0, .int 0, .int 0, .int 0, .int 0]))]) := hD
  refine lv_dup hx hb dX5_init_55 rfl ?_
  refine lv_aload_n hx hb dX5_init_56 rfl (lv_at hl 0 rfl) ?_
  refine va_get (D := (dC, dI)) (ci := 6) (v := .ref nX3_1) (C := RX5) (T := TX5) (N := 6) hx hb hts uu_X5_init_X5 hown hK hP 0 rfl rfl 0 (by decide) (hts (.fieldLink RX5 12 "BlockScreen" "screen" "LBlockScreen$Screen;") (List.mem_of_getElem? (i := 7) rfl)) (fun _ h9 => h9) rfl dX5_init_57 ?_
  refine lv_aload_n hx hb dX5_init_60 rfl (lv_at hl 0 rfl) ?_
  refine va_get (D := (dC, dI)) (ci := 6) (v := .ref nX4_2) (C := RX5) (T := TX5) (N := 6) hx hb hts uu_X5_init_X5 hown hK hP 0 rfl rfl 1 (by decide) (hts (.fieldLink RX5 23 "BlockScreen" "sender" "LBlockScreen$Sender;") (List.mem_of_getElem? (i := 11) rfl)) (fun _ h9 => h9) rfl dX5_init_61 ?_
  refine lv_aload_n hx hb dX5_init_64 rfl (lv_at hl 0 rfl) ?_
  refine va_get (D := (dC, dI)) (ci := 6) (v := .ref nX2_3) (C := RX5) (T := TX5) (N := 6) hx hb hts uu_X5_init_X5 hown hK hP 0 rfl rfl 2 (by decide) (hts (.fieldLink RX5 32 "BlockScreen" "keyboard" "LBlockScreen$Keyboard;") (List.mem_of_getElem? (i := 15) rfl)) (fun _ h9 => h9) rfl dX5_init_65 ?_
  refine my_jI (As := [.ref nX3_1, .ref nX4_2, .ref nX2_3]) (rest := [.ref nX1_4, .ref o]) (wc := [(nX1_4, .inr (2, [.null, .null, .null, .null, .int 0, .int 0, .int 0, .int 0, .int 0, .int 0]))]) (wr := [(o, .inr (6, [.ref nX3_1, .ref nX4_2, .ref nX2_3, .null, .int 0, .int 0])), (nX3_1, .inr (4, [.int (nI r), .int (nI k), .ref u_11, .int (nI r), .int (nI k), .int (nI r * nI k), .int 0, .int 0])), (u_11, .inl (cI, (r * k), .inl (fun _ => 0))), (nX4_2, .inr (5, [.ref nX3_1, .ref u_26.1, .int 96])), (u_26.1, .inr (1, [.ref u_26.2, .int 0])), (u_26.2, .inl (cB, 64, .inl (fun _ => 0))), (nX2_3, .inr (3, [.ref nX3_1, .ref nX4_2, .int 1, .int 0]))]) ⟨hx, hb, hml, hown, hts⟩ (c_X1_init l dC dI cI cB nX1_4 nX3_1 nX4_2 nX2_3 _) (cwI 3 hts gX5_init_X1_init rfl rfl rfl (hts (.initialized RX1) (List.mem_of_getElem? (i := 18) rfl)) (hts (.methodLink RX5 38 yX1_init) (List.mem_of_getElem? (i := 66) rfl)) (hts (.instanceMethod yX1_init) (List.mem_of_getElem? (i := 67) rfl)) rfl (by decide +kernel) ⟨Nat.le_of_ble_eq_true rfl, Nat.le_of_ble_eq_true rfl⟩) E_X1_init_b (fun U hW => va_Nw.warmM hW hN.2) hK hP hD hS hA [0, 1] [7] [0, 1, 2, 3, 4, 5, 6] rfl rfl rfl rfl rfl rfl (by decide) rfl hl.1 rfl (Nat.le_of_ble_eq_true rfl) dX5_init_68 ⟨by show (((((((0 + 1) + 1) + 1) + 2) + 1) + 0) + 1) + 2 ≤ 9; omega, by show (((((((0 + 8) + (r * k)) + 3) + 66) + 4) + 0) + 10) + 66 ≤ (157 + r * k); omega⟩ (fun u_68 H locs hP hD hS => ?_)
  have hP : va_P (dC, dI) vwCl ([(o, .inr (6, [.ref nX3_1, .ref nX4_2, .ref nX2_3, .null, .int 0, .int 0])), (nX3_1, .inr (4, [.int (nI r), .int (nI k), .ref u_11, .int (nI r), .int (nI k), .int (nI r * nI k), .int 0, .int 0])), (u_11, .inl (cI, (r * k), .inl (fun _ => 0))), (nX4_2, .inr (5, [.ref nX3_1, .ref u_26.1, .int 96])), (u_26.1, .inr (1, [.ref u_26.2, .int 0])), (u_26.2, .inl (cB, 64, .inl (fun _ => 0))), (nX2_3, .inr (3, [.ref nX3_1, .ref nX4_2, .int 1, .int 0])), (nX1_4, .inr (2, [.ref nX3_1, .ref nX4_2, .ref nX2_3, .ref u_68.1, .int 0, .int 0, .int 0, .int 0, .int 0, .int 0])), (u_68.1, .inr (1, [.ref u_68.2, .int 0])), (u_68.2, .inl (cB, 64, .inl (fun _ => 0)))]) H := hP
  have hD : va_D A ([(o, .inr (6, [.ref nX3_1, .ref nX4_2, .ref nX2_3, .null, .int 0, .int 0])), (nX3_1, .inr (4, [.int (nI r), .int (nI k), .ref u_11, .int (nI r), .int (nI k), .int (nI r * nI k), .int 0, .int 0])), (u_11, .inl (cI, (r * k), .inl (fun _ => 0))), (nX4_2, .inr (5, [.ref nX3_1, .ref u_26.1, .int 96])), (u_26.1, .inr (1, [.ref u_26.2, .int 0])), (u_26.2, .inl (cB, 64, .inl (fun _ => 0))), (nX2_3, .inr (3, [.ref nX3_1, .ref nX4_2, .int 1, .int 0])), (nX1_4, .inr (2, [.ref nX3_1, .ref nX4_2, .ref nX2_3, .ref u_68.1, .int 0, .int 0, .int 0, .int 0, .int 0, .int 0])), (u_68.1, .inr (1, [.ref u_68.2, .int 0])), (u_68.2, .inl (cB, 64, .inl (fun _ => 0)))]) := hD
  refine va_putF (D := (dC, dI)) (ci := 6) (v := .ref nX1_4) (C := RX5) (T := TX5) (N := 6) hx hb hts uu_X5_init_X5 tyX5 tyX5_ok nmX5 hown hK hP hD hS 0 rfl rfl 3 (by decide) (hts (.fieldLink RX5 41 "BlockScreen" "stream" "LBlockScreen$HostStream;") (List.mem_of_getElem? (i := 19) rfl)) (fun _ h9 => h9) rfl hnm rfl (tyX5_ok 3 (by decide)) rfl rfl (Nat.le_of_ble_eq_true rfl) dX5_init_71 (fun H locs hP hD hS => ?_)
  have hP : va_P (dC, dI) vwCl ([(o, .inr (6, [.ref nX3_1, .ref nX4_2, .ref nX2_3, .ref nX1_4, .int 0, .int 0])), (nX3_1, .inr (4, [.int (nI r), .int (nI k), .ref u_11, .int (nI r), .int (nI k), .int (nI r * nI k), .int 0, .int 0])), (u_11, .inl (cI, (r * k), .inl (fun _ => 0))), (nX4_2, .inr (5, [.ref nX3_1, .ref u_26.1, .int 96])), (u_26.1, .inr (1, [.ref u_26.2, .int 0])), (u_26.2, .inl (cB, 64, .inl (fun _ => 0))), (nX2_3, .inr (3, [.ref nX3_1, .ref nX4_2, .int 1, .int 0])), (nX1_4, .inr (2, [.ref nX3_1, .ref nX4_2, .ref nX2_3, .ref u_68.1, .int 0, .int 0, .int 0, .int 0, .int 0, .int 0])), (u_68.1, .inr (1, [.ref u_68.2, .int 0])), (u_68.2, .inl (cB, 64, .inl (fun _ => 0)))]) H := hP
  have hD : va_D A ([(o, .inr (6, [.ref nX3_1, .ref nX4_2, .ref nX2_3, .ref nX1_4, .int 0, .int 0])), (nX3_1, .inr (4, [.int (nI r), .int (nI k), .ref u_11, .int (nI r), .int (nI k), .int (nI r * nI k), .int 0, .int 0])), (u_11, .inl (cI, (r * k), .inl (fun _ => 0))), (nX4_2, .inr (5, [.ref nX3_1, .ref u_26.1, .int 96])), (u_26.1, .inr (1, [.ref u_26.2, .int 0])), (u_26.2, .inl (cB, 64, .inl (fun _ => 0))), (nX2_3, .inr (3, [.ref nX3_1, .ref nX4_2, .int 1, .int 0])), (nX1_4, .inr (2, [.ref nX3_1, .ref nX4_2, .ref nX2_3, .ref u_68.1, .int 0, .int 0, .int 0, .int 0, .int 0, .int 0])), (u_68.1, .inr (1, [.ref u_68.2, .int 0])), (u_68.2, .inl (cB, 64, .inl (fun _ => 0)))]) := hD
  refine lv_aload_n hx hb dX5_init_74 rfl (lv_at hl 0 rfl) ?_
  refine lv_iconst (v := 0) hx hb dX5_init_75 (by decide) ?_
  refine va_put (D := (dC, dI)) (ci := 6) (v := .int 0) (C := RX5) (T := TX5) (N := 6) hx hb hts uu_X5_init_X5 tyX5 tyX5_ok nmX5 hown hK hP hD hS 0 rfl rfl 4 (by decide) (hts (.fieldLink RX5 45 "BlockScreen" "markCame" "Z") (List.mem_of_getElem? (i := 20) rfl)) (fun _ h9 => h9) rfl (tyX5_ok 4 (by decide)) rfl rfl (Nat.le_of_ble_eq_true rfl) dX5_init_76 (fun H locs hP hD hS => ?_)
  have hP : va_P (dC, dI) vwCl ([(o, .inr (6, [.ref nX3_1, .ref nX4_2, .ref nX2_3, .ref nX1_4, .int 0, .int 0])), (nX3_1, .inr (4, [.int (nI r), .int (nI k), .ref u_11, .int (nI r), .int (nI k), .int (nI r * nI k), .int 0, .int 0])), (u_11, .inl (cI, (r * k), .inl (fun _ => 0))), (nX4_2, .inr (5, [.ref nX3_1, .ref u_26.1, .int 96])), (u_26.1, .inr (1, [.ref u_26.2, .int 0])), (u_26.2, .inl (cB, 64, .inl (fun _ => 0))), (nX2_3, .inr (3, [.ref nX3_1, .ref nX4_2, .int 1, .int 0])), (nX1_4, .inr (2, [.ref nX3_1, .ref nX4_2, .ref nX2_3, .ref u_68.1, .int 0, .int 0, .int 0, .int 0, .int 0, .int 0])), (u_68.1, .inr (1, [.ref u_68.2, .int 0])), (u_68.2, .inl (cB, 64, .inl (fun _ => 0)))]) H := hP
  have hD : va_D A ([(o, .inr (6, [.ref nX3_1, .ref nX4_2, .ref nX2_3, .ref nX1_4, .int 0, .int 0])), (nX3_1, .inr (4, [.int (nI r), .int (nI k), .ref u_11, .int (nI r), .int (nI k), .int (nI r * nI k), .int 0, .int 0])), (u_11, .inl (cI, (r * k), .inl (fun _ => 0))), (nX4_2, .inr (5, [.ref nX3_1, .ref u_26.1, .int 96])), (u_26.1, .inr (1, [.ref u_26.2, .int 0])), (u_26.2, .inl (cB, 64, .inl (fun _ => 0))), (nX2_3, .inr (3, [.ref nX3_1, .ref nX4_2, .int 1, .int 0])), (nX1_4, .inr (2, [.ref nX3_1, .ref nX4_2, .ref nX2_3, .ref u_68.1, .int 0, .int 0, .int 0, .int 0, .int 0, .int 0])), (u_68.1, .inr (1, [.ref u_68.2, .int 0])), (u_68.2, .inl (cB, 64, .inl (fun _ => 0)))]) := hD
  refine lv_aload_n hx hb dX5_init_79 rfl (lv_at hl 0 rfl) ?_
  refine lv_iconst (v := 0) hx hb dX5_init_80 (by decide) ?_
  refine va_put (D := (dC, dI)) (ci := 6) (v := .int 0) (C := RX5) (T := TX5) (N := 6) hx hb hts uu_X5_init_X5 tyX5 tyX5_ok nmX5 hown hK hP hD hS 0 rfl rfl 5 (by decide) (hts (.fieldLink RX5 49 "BlockScreen" "rejectedStreams" "I") (List.mem_of_getElem? (i := 21) rfl)) (fun _ h9 => h9) rfl (tyX5_ok 5 (by decide)) rfl rfl (Nat.le_of_ble_eq_true rfl) dX5_init_81 (fun H locs hP hD hS => ?_)
  have hP : va_P (dC, dI) vwCl ([(o, .inr (6, [.ref nX3_1, .ref nX4_2, .ref nX2_3, .ref nX1_4, .int 0, .int 0])), (nX3_1, .inr (4, [.int (nI r), .int (nI k), .ref u_11, .int (nI r), .int (nI k), .int (nI r * nI k), .int 0, .int 0])), (u_11, .inl (cI, (r * k), .inl (fun _ => 0))), (nX4_2, .inr (5, [.ref nX3_1, .ref u_26.1, .int 96])), (u_26.1, .inr (1, [.ref u_26.2, .int 0])), (u_26.2, .inl (cB, 64, .inl (fun _ => 0))), (nX2_3, .inr (3, [.ref nX3_1, .ref nX4_2, .int 1, .int 0])), (nX1_4, .inr (2, [.ref nX3_1, .ref nX4_2, .ref nX2_3, .ref u_68.1, .int 0, .int 0, .int 0, .int 0, .int 0, .int 0])), (u_68.1, .inr (1, [.ref u_68.2, .int 0])), (u_68.2, .inl (cB, 64, .inl (fun _ => 0)))]) H := hP
  have hD : va_D A ([(o, .inr (6, [.ref nX3_1, .ref nX4_2, .ref nX2_3, .ref nX1_4, .int 0, .int 0])), (nX3_1, .inr (4, [.int (nI r), .int (nI k), .ref u_11, .int (nI r), .int (nI k), .int (nI r * nI k), .int 0, .int 0])), (u_11, .inl (cI, (r * k), .inl (fun _ => 0))), (nX4_2, .inr (5, [.ref nX3_1, .ref u_26.1, .int 96])), (u_26.1, .inr (1, [.ref u_26.2, .int 0])), (u_26.2, .inl (cB, 64, .inl (fun _ => 0))), (nX2_3, .inr (3, [.ref nX3_1, .ref nX4_2, .int 1, .int 0])), (nX1_4, .inr (2, [.ref nX3_1, .ref nX4_2, .ref nX2_3, .ref u_68.1, .int 0, .int 0, .int 0, .int 0, .int 0, .int 0])), (u_68.1, .inr (1, [.ref u_68.2, .int 0])), (u_68.2, .inl (cB, 64, .inl (fun _ => 0)))]) := hD
  refine W.widen (k := 9) (n := (157 + r * k)) (by omega) (by omega) ?_
  exact my_retv (fun i => ([nX3_1, u_11, nX4_2, u_26.1, u_26.2, nX2_3, nX1_4, u_68.1, u_68.2] : List Nat).getD i 0) hx hb hr hlocks hK hP hD hS dX5_init_84
def rR (a : Int32) : Int32 := if 1 ≤ a then (if a ≤ 43 then a else 43) else 1
def rC (a : Int32) : Int32 := if 1 ≤ a then (if a ≤ 132 then a else 132) else 1
theorem uu_X6_init_X6 : ∀ w ∈ u_ws RX6 TX6 25, w ∈ wsX6_init := fun _ h => List.mem_cons_of_mem _ (List.mem_append_right _ h)
set_option maxHeartbeats 400000 in
set_option maxRecDepth 100000 in
theorem c_X6_init (l : Launch) (dC : Nat → ClassId) (dI : Nat → Nat → Nat) (cI cB : ClassId) (o : Nat) (a1 a2 : Int32) (sz : Nat) (res : Int32 × Int32 × Int32 × Int32 × (Nat → Int32)) (hf : f_X6_use (rR a1) (rC a2) 0 0 0 0 (fun _ => 0) false = some res) : Met l yX6_init wsX6_init ({ frames := 1, cells := 3, slots := 36868, locals := 22 }) (va_Pc [.ref o, .int a1, .int a2] (my_Pre (dC, dI) [(cI, .int)] [(o, .inr (7, [.int 0, .int 0, .int 0, .int 0, .int 0, .int 0, .null, .int 0, .int 0, .int 0, .int 0, .int 0, .int 0, .null, .int 0, .int 0, .int 0, .int 0, .int 0, .int 0, .int 0, .int 0, .null, .int 0, .int 0]))] sz)) (my_Qv (S := Nat → Nat) (dC, dI) [(cI, .int)] (fun u => wM o (u 0) (u 1) (u 2) cI (rR a1) (rC a2) res.1 res.2.1 res.2.2.1 res.2.2.2.1 true false 0 0 96 0 0 0 0 0 false false false false 0 false res.2.2.2.2 (fun _ => 0) (fun _ => 0)) (va_A [(o, .inr (7, [.int 0, .int 0, .int 0, .int 0, .int 0, .int 0, .null, .int 0, .int 0, .int 0, .int 0, .int 0, .int 0, .null, .int 0, .int 0, .int 0, .int 0, .int 0, .int 0, .int 0, .int 0, .null, .int 0, .int 0]))] sz)) 3 36868 (va_A [(o, .inr (7, [.int 0, .int 0, .int 0, .int 0, .int 0, .int 0, .null, .int 0, .int 0, .int 0, .int 0, .int 0, .int 0, .null, .int 0, .int 0, .int 0, .int 0, .int 0, .int 0, .int 0, .int 0, .null, .int 0, .int 0]))] sz) := by
  refine my_enter (y := yX6_init) (ws := wsX6_init) (av := [.ref o, .int a1, .int a2]) (W0 := [(o, .inr (7, [.int 0, .int 0, .int 0, .int 0, .int 0, .int 0, .null, .int 0, .int 0, .int 0, .int 0, .int 0, .int 0, .null, .int 0, .int 0, .int 0, .int 0, .int 0, .int 0, .int 0, .int 0, .null, .int 0, .int 0]))]) (sz := sz) (D := (dC, dI)) (tys := [(cI, .int)]) (cc := cX6_init) (maxL := 3) (ret := none) (Qc := my_Qv (S := Nat → Nat) (dC, dI) [(cI, .int)] (fun u => wM o (u 0) (u 1) (u 2) cI (rR a1) (rC a2) res.1 res.2.1 res.2.2.1 res.2.2.2.1 true false 0 0 96 0 0 0 0 0 false false false false 0 false res.2.2.2.2 (fun _ => 0) (fun _ => 0))) (by decide) rfl (Nat.le_of_ble_eq_true rfl) ?_
  intro p e s m below meth c A ls hx hb hr hml hts hown hlocks hnm hP hK hD hA hS hl
  have hown : s.vm.findClass RX6 = some m.cls := hown
  have hnm : meth.name = "<init>" := hnm
  have hl : lv_has ls 3 [(0, .ref o), (1, .int a1), (2, .int a2)] := hl
  refine lv_aload_n hx hb dX6_init_0 rfl (lv_at hl 0 rfl) ?_
  refine W.objInit hx hb hown (hts (.methodLink RX6 1 objectInit) (List.mem_of_getElem? (i := 1) rfl)) (hts (.instanceMethod objectInit) (List.mem_of_getElem? (i := 2) rfl)) (hts (.code objectInit ⟨#[0xb1]⟩ 1 none) (List.mem_of_getElem? (i := 3) rfl)) rfl (by rw [hml]; exact hl.1) rfl dX6_init_1 (Nat.le_of_ble_eq_true rfl) (Nat.le_of_ble_eq_true rfl) ?_
  refine W.eq (g2 := F0 m 4 ls []) rfl ?_
  refine lv_aload_n hx hb dX6_init_4 rfl (lv_at hl 0 rfl) ?_
  refine lv_sipush (v := 5676) hx hb dX6_init_5 (by decide) ?_
  have z1a : (Cond.arrayClass (newarray.typeOf .int)).before ([.ref o, .int a1, .int a2] : List Value).toArray s = true := hts (.arrayClass .int) (List.mem_of_getElem? (i := 4) rfl)
  refine va_newa (atype := .int) (ty := .int) (n := 5676) (N' := 5676) (a0 := (5676, .inl (fun _ => 0))) hx hb z1a rfl hK hP hD hS hA (fun cA => rfl) (by decide) (by decide) (by decide) (by show 0 + 1 ≤ 3; omega) (by show 0 + 5676 ≤ 36868; omega) dX6_init_8 (fun nA_1 cA H hK2 hP hD hS => ?_)
  have hcA : cI = cA := (same_arrT (ty := .int) (by decide) hK2 1 0 rfl rfl).symm
  subst hcA
  have hP : va_P (dC, dI) vwCl ([(o, .inr (7, [.int 0, .int 0, .int 0, .int 0, .int 0, .int 0, .null, .int 0, .int 0, .int 0, .int 0, .int 0, .int 0, .null, .int 0, .int 0, .int 0, .int 0, .int 0, .int 0, .int 0, .int 0, .null, .int 0, .int 0])), (nA_1, .inl (cI, 5676, .inl (fun _ => 0)))]) H := hP
  have hD : va_D A ([(o, .inr (7, [.int 0, .int 0, .int 0, .int 0, .int 0, .int 0, .null, .int 0, .int 0, .int 0, .int 0, .int 0, .int 0, .null, .int 0, .int 0, .int 0, .int 0, .int 0, .int 0, .int 0, .int 0, .null, .int 0, .int 0])), (nA_1, .inl (cI, 5676, .inl (fun _ => 0)))]) := hD
  refine va_putF (D := (dC, dI)) (ci := 7) (v := .ref nA_1) (C := RX6) (T := TX6) (N := 25) hx hb hts uu_X6_init_X6 tyX6 tyX6_ok nmX6 hown hK hP hD hS 0 rfl rfl 6 (by decide) (hts (.fieldLink RX6 7 "BlockScreenModel" "screen" "[I") (List.mem_of_getElem? (i := 5) rfl)) (fun _ h9 => h9) rfl hnm rfl (tyX6_ok 6 (by decide)) rfl rfl (Nat.le_of_ble_eq_true rfl) dX6_init_10 (fun H locs hP hD hS => ?_)
  have hP : va_P (dC, dI) vwCl ([(o, .inr (7, [.int 0, .int 0, .int 0, .int 0, .int 0, .int 0, .ref nA_1, .int 0, .int 0, .int 0, .int 0, .int 0, .int 0, .null, .int 0, .int 0, .int 0, .int 0, .int 0, .int 0, .int 0, .int 0, .null, .int 0, .int 0])), (nA_1, .inl (cI, 5676, .inl (fun _ => 0)))]) H := hP
  have hD : va_D A ([(o, .inr (7, [.int 0, .int 0, .int 0, .int 0, .int 0, .int 0, .ref nA_1, .int 0, .int 0, .int 0, .int 0, .int 0, .int 0, .null, .int 0, .int 0, .int 0, .int 0, .int 0, .int 0, .int 0, .int 0, .null, .int 0, .int 0])), (nA_1, .inl (cI, 5676, .inl (fun _ => 0)))]) := hD
  refine lv_aload_n hx hb dX6_init_13 rfl (lv_at hl 0 rfl) ?_
  refine lv_iconst (v := 1) hx hb dX6_init_14 (by decide) ?_
  refine va_put (D := (dC, dI)) (ci := 7) (v := .int 1) (C := RX6) (T := TX6) (N := 25) hx hb hts uu_X6_init_X6 tyX6 tyX6_ok nmX6 hown hK hP hD hS 0 rfl rfl 7 (by decide) (hts (.fieldLink RX6 13 "BlockScreenModel" "locked" "Z") (List.mem_of_getElem? (i := 6) rfl)) (fun _ h9 => h9) rfl (tyX6_ok 7 (by decide)) rfl rfl (Nat.le_of_ble_eq_true rfl) dX6_init_15 (fun H locs hP hD hS => ?_)
  have hP : va_P (dC, dI) vwCl ([(o, .inr (7, [.int 0, .int 0, .int 0, .int 0, .int 0, .int 0, .ref nA_1, .int 1, .int 0, .int 0, .int 0, .int 0, .int 0, .null, .int 0, .int 0, .int 0, .int 0, .int 0, .int 0, .int 0, .int 0, .null, .int 0, .int 0])), (nA_1, .inl (cI, 5676, .inl (fun _ => 0)))]) H := hP
  have hD : va_D A ([(o, .inr (7, [.int 0, .int 0, .int 0, .int 0, .int 0, .int 0, .ref nA_1, .int 1, .int 0, .int 0, .int 0, .int 0, .int 0, .null, .int 0, .int 0, .int 0, .int 0, .int 0, .int 0, .int 0, .int 0, .null, .int 0, .int 0])), (nA_1, .inl (cI, 5676, .inl (fun _ => 0)))]) := hD
  refine lv_aload_n hx hb dX6_init_18 rfl (lv_at hl 0 rfl) ?_
  refine lv_bipush (v := 96) hx hb dX6_init_19 (by decide) ?_
  refine va_put (D := (dC, dI)) (ci := 7) (v := .int 96) (C := RX6) (T := TX6) (N := 25) hx hb hts uu_X6_init_X6 tyX6 tyX6_ok nmX6 hown hK hP hD hS 0 rfl rfl 11 (by decide) (hts (.fieldLink RX6 17 "BlockScreenModel" "latest" "I") (List.mem_of_getElem? (i := 7) rfl)) (fun _ h9 => h9) rfl (tyX6_ok 11 (by decide)) rfl rfl (Nat.le_of_ble_eq_true rfl) dX6_init_21 (fun H locs hP hD hS => ?_)
  have hP : va_P (dC, dI) vwCl ([(o, .inr (7, [.int 0, .int 0, .int 0, .int 0, .int 0, .int 0, .ref nA_1, .int 1, .int 0, .int 0, .int 0, .int 96, .int 0, .null, .int 0, .int 0, .int 0, .int 0, .int 0, .int 0, .int 0, .int 0, .null, .int 0, .int 0])), (nA_1, .inl (cI, 5676, .inl (fun _ => 0)))]) H := hP
  have hD : va_D A ([(o, .inr (7, [.int 0, .int 0, .int 0, .int 0, .int 0, .int 0, .ref nA_1, .int 1, .int 0, .int 0, .int 0, .int 96, .int 0, .null, .int 0, .int 0, .int 0, .int 0, .int 0, .int 0, .int 0, .int 0, .null, .int 0, .int 0])), (nA_1, .inl (cI, 5676, .inl (fun _ => 0)))]) := hD
  refine lv_aload_n hx hb dX6_init_24 rfl (lv_at hl 0 rfl) ?_
  refine lv_sipush (v := 8192) hx hb dX6_init_25 (by decide) ?_
  have z2a : (Cond.arrayClass (newarray.typeOf .int)).before ([.ref o, .int a1, .int a2] : List Value).toArray s = true := hts (.arrayClass .int) (List.mem_of_getElem? (i := 4) rfl)
  refine va_newa (atype := .int) (ty := .int) (n := 8192) (N' := 8192) (a0 := (8192, .inl (fun _ => 0))) hx hb z2a rfl hK hP hD hS hA (fun cA => rfl) (by decide) (by decide) (by decide) (by show (0 + 1) + 1 ≤ 3; omega) (by show (0 + 5676) + 8192 ≤ 36868; omega) dX6_init_28 (fun nA_2 cA H hK2 hP hD hS => ?_)
  have hcA : cI = cA := (same_arrT (ty := .int) (by decide) hK2 1 0 rfl rfl).symm
  subst hcA
  have hP : va_P (dC, dI) vwCl ([(o, .inr (7, [.int 0, .int 0, .int 0, .int 0, .int 0, .int 0, .ref nA_1, .int 1, .int 0, .int 0, .int 0, .int 96, .int 0, .null, .int 0, .int 0, .int 0, .int 0, .int 0, .int 0, .int 0, .int 0, .null, .int 0, .int 0])), (nA_1, .inl (cI, 5676, .inl (fun _ => 0))), (nA_2, .inl (cI, 8192, .inl (fun _ => 0)))]) H := hP
  have hD : va_D A ([(o, .inr (7, [.int 0, .int 0, .int 0, .int 0, .int 0, .int 0, .ref nA_1, .int 1, .int 0, .int 0, .int 0, .int 96, .int 0, .null, .int 0, .int 0, .int 0, .int 0, .int 0, .int 0, .int 0, .int 0, .null, .int 0, .int 0])), (nA_1, .inl (cI, 5676, .inl (fun _ => 0))), (nA_2, .inl (cI, 8192, .inl (fun _ => 0)))]) := hD
  refine va_putF (D := (dC, dI)) (ci := 7) (v := .ref nA_2) (C := RX6) (T := TX6) (N := 25) hx hb hts uu_X6_init_X6 tyX6 tyX6_ok nmX6 hown hK hP hD hS 0 rfl rfl 13 (by decide) (hts (.fieldLink RX6 21 "BlockScreenModel" "stream" "[I") (List.mem_of_getElem? (i := 8) rfl)) (fun _ h9 => h9) rfl hnm rfl (tyX6_ok 13 (by decide)) rfl rfl (Nat.le_of_ble_eq_true rfl) dX6_init_30 (fun H locs hP hD hS => ?_)
  have hP : va_P (dC, dI) vwCl ([(o, .inr (7, [.int 0, .int 0, .int 0, .int 0, .int 0, .int 0, .ref nA_1, .int 1, .int 0, .int 0, .int 0, .int 96, .int 0, .ref nA_2, .int 0, .int 0, .int 0, .int 0, .int 0, .int 0, .int 0, .int 0, .null, .int 0, .int 0])), (nA_1, .inl (cI, 5676, .inl (fun _ => 0))), (nA_2, .inl (cI, 8192, .inl (fun _ => 0)))]) H := hP
  have hD : va_D A ([(o, .inr (7, [.int 0, .int 0, .int 0, .int 0, .int 0, .int 0, .ref nA_1, .int 1, .int 0, .int 0, .int 0, .int 96, .int 0, .ref nA_2, .int 0, .int 0, .int 0, .int 0, .int 0, .int 0, .int 0, .int 0, .null, .int 0, .int 0])), (nA_1, .inl (cI, 5676, .inl (fun _ => 0))), (nA_2, .inl (cI, 8192, .inl (fun _ => 0)))]) := hD
  refine lv_aload_n hx hb dX6_init_33 rfl (lv_at hl 0 rfl) ?_
  refine lv_sipush (v := 23000) hx hb dX6_init_34 (by decide) ?_
  have z3a : (Cond.arrayClass (newarray.typeOf .int)).before ([.ref o, .int a1, .int a2] : List Value).toArray s = true := hts (.arrayClass .int) (List.mem_of_getElem? (i := 4) rfl)
  refine va_newa (atype := .int) (ty := .int) (n := 23000) (N' := 23000) (a0 := (23000, .inl (fun _ => 0))) hx hb z3a rfl hK hP hD hS hA (fun cA => rfl) (by decide) (by decide) (by decide) (by show ((0 + 1) + 1) + 1 ≤ 3; omega) (by show ((0 + 5676) + 8192) + 23000 ≤ 36868; omega) dX6_init_37 (fun nA_3 cA H hK2 hP hD hS => ?_)
  have hcA : cI = cA := (same_arrT (ty := .int) (by decide) hK2 1 0 rfl rfl).symm
  subst hcA
  have hP : va_P (dC, dI) vwCl ([(o, .inr (7, [.int 0, .int 0, .int 0, .int 0, .int 0, .int 0, .ref nA_1, .int 1, .int 0, .int 0, .int 0, .int 96, .int 0, .ref nA_2, .int 0, .int 0, .int 0, .int 0, .int 0, .int 0, .int 0, .int 0, .null, .int 0, .int 0])), (nA_1, .inl (cI, 5676, .inl (fun _ => 0))), (nA_2, .inl (cI, 8192, .inl (fun _ => 0))), (nA_3, .inl (cI, 23000, .inl (fun _ => 0)))]) H := hP
  have hD : va_D A ([(o, .inr (7, [.int 0, .int 0, .int 0, .int 0, .int 0, .int 0, .ref nA_1, .int 1, .int 0, .int 0, .int 0, .int 96, .int 0, .ref nA_2, .int 0, .int 0, .int 0, .int 0, .int 0, .int 0, .int 0, .int 0, .null, .int 0, .int 0])), (nA_1, .inl (cI, 5676, .inl (fun _ => 0))), (nA_2, .inl (cI, 8192, .inl (fun _ => 0))), (nA_3, .inl (cI, 23000, .inl (fun _ => 0)))]) := hD
  refine va_putF (D := (dC, dI)) (ci := 7) (v := .ref nA_3) (C := RX6) (T := TX6) (N := 25) hx hb hts uu_X6_init_X6 tyX6 tyX6_ok nmX6 hown hK hP hD hS 0 rfl rfl 22 (by decide) (hts (.fieldLink RX6 24 "BlockScreenModel" "waits" "[I") (List.mem_of_getElem? (i := 9) rfl)) (fun _ h9 => h9) rfl hnm rfl (tyX6_ok 22 (by decide)) rfl rfl (Nat.le_of_ble_eq_true rfl) dX6_init_39 (fun H locs hP hD hS => ?_)
  have hP : va_P (dC, dI) vwCl ([(o, .inr (7, [.int 0, .int 0, .int 0, .int 0, .int 0, .int 0, .ref nA_1, .int 1, .int 0, .int 0, .int 0, .int 96, .int 0, .ref nA_2, .int 0, .int 0, .int 0, .int 0, .int 0, .int 0, .int 0, .int 0, .ref nA_3, .int 0, .int 0])), (nA_1, .inl (cI, 5676, .inl (fun _ => 0))), (nA_2, .inl (cI, 8192, .inl (fun _ => 0))), (nA_3, .inl (cI, 23000, .inl (fun _ => 0)))]) H := hP
  have hD : va_D A ([(o, .inr (7, [.int 0, .int 0, .int 0, .int 0, .int 0, .int 0, .ref nA_1, .int 1, .int 0, .int 0, .int 0, .int 96, .int 0, .ref nA_2, .int 0, .int 0, .int 0, .int 0, .int 0, .int 0, .int 0, .int 0, .ref nA_3, .int 0, .int 0])), (nA_1, .inl (cI, 5676, .inl (fun _ => 0))), (nA_2, .inl (cI, 8192, .inl (fun _ => 0))), (nA_3, .inl (cI, 23000, .inl (fun _ => 0)))]) := hD
  refine lv_aload_n hx hb dX6_init_42 rfl (lv_at hl 0 rfl) ?_
  refine lv_iload_n hx hb dX6_init_43 rfl (lv_at hl 1 rfl) ?_
  refine lv_iconst (v := 1) hx hb dX6_init_44 (by decide) ?_
  refine lv_icmp_ge (tgt := 52) hx hb dX6_init_45 (by decide) (fun cr_1 => ?_) (fun cr_1 => ?_)
  · have _h := cr_1
    refine lv_iload_n hx hb dX6_init_52 rfl (lv_at hl 1 rfl) ?_
    refine lv_bipush (v := 43) hx hb dX6_init_53 (by decide) ?_
    refine lv_icmp_le (tgt := 63) hx hb dX6_init_55 (by decide) (fun cr_2 => ?_) (fun cr_2 => ?_)
    · have _h := cr_2
      refine lv_iload_n hx hb dX6_init_63 rfl (lv_at hl 1 rfl) ?_
      refine va_putF (D := (dC, dI)) (ci := 7) (v := .int a1) (C := RX6) (T := TX6) (N := 25) hx hb hts uu_X6_init_X6 tyX6 tyX6_ok nmX6 hown hK hP hD hS 0 rfl rfl 0 (by decide) (hts (.fieldLink RX6 27 "BlockScreenModel" "allRows" "I") (List.mem_of_getElem? (i := 10) rfl)) (fun _ h9 => h9) rfl hnm rfl (tyX6_ok 0 (by decide)) rfl rfl (Nat.le_of_ble_eq_true rfl) dX6_init_64 (fun H locs hP hD hS => ?_)
      have hP : va_P (dC, dI) vwCl ([(o, .inr (7, [.int a1, .int 0, .int 0, .int 0, .int 0, .int 0, .ref nA_1, .int 1, .int 0, .int 0, .int 0, .int 96, .int 0, .ref nA_2, .int 0, .int 0, .int 0, .int 0, .int 0, .int 0, .int 0, .int 0, .ref nA_3, .int 0, .int 0])), (nA_1, .inl (cI, 5676, .inl (fun _ => 0))), (nA_2, .inl (cI, 8192, .inl (fun _ => 0))), (nA_3, .inl (cI, 23000, .inl (fun _ => 0)))]) H := hP
      have hD : va_D A ([(o, .inr (7, [.int a1, .int 0, .int 0, .int 0, .int 0, .int 0, .ref nA_1, .int 1, .int 0, .int 0, .int 0, .int 96, .int 0, .ref nA_2, .int 0, .int 0, .int 0, .int 0, .int 0, .int 0, .int 0, .int 0, .ref nA_3, .int 0, .int 0])), (nA_1, .inl (cI, 5676, .inl (fun _ => 0))), (nA_2, .inl (cI, 8192, .inl (fun _ => 0))), (nA_3, .inl (cI, 23000, .inl (fun _ => 0)))]) := hD
      refine lv_aload_n hx hb dX6_init_67 rfl (lv_at hl 0 rfl) ?_
      refine lv_iload_n hx hb dX6_init_68 rfl (lv_at hl 2 rfl) ?_
      refine lv_iconst (v := 1) hx hb dX6_init_69 (by decide) ?_
      refine lv_icmp_ge (tgt := 77) hx hb dX6_init_70 (by decide) (fun cc_1 => ?_) (fun cc_1 => ?_)
      · have _h := cc_1
        refine lv_iload_n hx hb dX6_init_77 rfl (lv_at hl 2 rfl) ?_
        refine lv_sipush (v := 132) hx hb dX6_init_78 (by decide) ?_
        refine lv_icmp_le (tgt := 90) hx hb dX6_init_81 (by decide) (fun cc_2 => ?_) (fun cc_2 => ?_)
        · have _h := cc_2
          refine lv_iload_n hx hb dX6_init_90 rfl (lv_at hl 2 rfl) ?_
          refine va_putF (D := (dC, dI)) (ci := 7) (v := .int a2) (C := RX6) (T := TX6) (N := 25) hx hb hts uu_X6_init_X6 tyX6 tyX6_ok nmX6 hown hK hP hD hS 0 rfl rfl 1 (by decide) (hts (.fieldLink RX6 30 "BlockScreenModel" "allColumns" "I") (List.mem_of_getElem? (i := 11) rfl)) (fun _ h9 => h9) rfl hnm rfl (tyX6_ok 1 (by decide)) rfl rfl (Nat.le_of_ble_eq_true rfl) dX6_init_91 (fun H locs hP hD hS => ?_)
          have hP : va_P (dC, dI) vwCl ([(o, .inr (7, [.int a1, .int a2, .int 0, .int 0, .int 0, .int 0, .ref nA_1, .int 1, .int 0, .int 0, .int 0, .int 96, .int 0, .ref nA_2, .int 0, .int 0, .int 0, .int 0, .int 0, .int 0, .int 0, .int 0, .ref nA_3, .int 0, .int 0])), (nA_1, .inl (cI, 5676, .inl (fun _ => 0))), (nA_2, .inl (cI, 8192, .inl (fun _ => 0))), (nA_3, .inl (cI, 23000, .inl (fun _ => 0)))]) H := hP
          have hD : va_D A ([(o, .inr (7, [.int a1, .int a2, .int 0, .int 0, .int 0, .int 0, .ref nA_1, .int 1, .int 0, .int 0, .int 0, .int 96, .int 0, .ref nA_2, .int 0, .int 0, .int 0, .int 0, .int 0, .int 0, .int 0, .int 0, .ref nA_3, .int 0, .int 0])), (nA_1, .inl (cI, 5676, .inl (fun _ => 0))), (nA_2, .inl (cI, 8192, .inl (fun _ => 0))), (nA_3, .inl (cI, 23000, .inl (fun _ => 0)))]) := hD
          refine lv_aload_n hx hb dX6_init_94 rfl (lv_at hl 0 rfl) ?_
          refine lv_iconst (v := 0) hx hb dX6_init_95 (by decide) ?_
          have e1 : a1 = rR a1 := by unfold rR; simp only [if_pos cr_1, if_pos cr_2]
          have e2 : a2 = rC a2 := by unfold rC; simp only [if_pos cc_1, if_pos cc_2]
          have hf2 := hf
          rw [← e1, ← e2] at hf2
          have hP : va_P (dC, dI) vwCl (wM o nA_1 nA_2 nA_3 cI a1 a2 0 0 0 0 true false 0 0 96 0 0 0 0 0 false false false false 0 false (fun _ => 0) (fun _ => 0) (fun _ => 0)) H := hP
          have hD : va_D A (wM o nA_1 nA_2 nA_3 cI a1 a2 0 0 0 0 true false 0 0 96 0 0 0 0 0 false false false false 0 false (fun _ => 0) (fun _ => 0) (fun _ => 0)) := hD
          refine my_cVv (As := [.int (b2i false)]) (rest := []) ⟨hx, hb, hml, hown, hts⟩ (c_X6_use l dC dI cI o nA_1 nA_2 nA_3 a1 a2 0 0 0 0 true false 0 0 96 0 0 0 0 0 false false false false 0 false (fun _ => 0) (fun _ => 0) (fun _ => 0) _ false res hf2) (cwV 1 hts gX6_init_X6_use rfl rfl rfl (by decide +kernel) ⟨Nat.le_of_ble_eq_true rfl, Nat.le_of_ble_eq_true rfl⟩) hK hP hD hS hA 0 7 rfl rfl rfl hl.1 rfl (Nat.le_of_ble_eq_true rfl) dX6_init_96 ⟨by show (((0 + 1) + 1) + 1) + 0 ≤ 3; omega, by show (((0 + 5676) + 8192) + 23000) + 0 ≤ 36868; omega⟩ (fun _ H locs hP hD hS => ?_)
          have hP : va_P (dC, dI) vwCl (wM o nA_1 nA_2 nA_3 cI a1 a2 res.1 res.2.1 res.2.2.1 res.2.2.2.1 true false 0 0 96 0 0 0 0 0 false false false false 0 false res.2.2.2.2 (fun _ => 0) (fun _ => 0)) H := hP
          have hD : va_D A (wM o nA_1 nA_2 nA_3 cI a1 a2 res.1 res.2.1 res.2.2.1 res.2.2.2.1 true false 0 0 96 0 0 0 0 0 false false false false 0 false res.2.2.2.2 (fun _ => 0) (fun _ => 0)) := hD
          have hP : va_P (dC, dI) vwCl (wM o nA_1 nA_2 nA_3 cI (rR a1) (rC a2) res.1 res.2.1 res.2.2.1 res.2.2.2.1 true false 0 0 96 0 0 0 0 0 false false false false 0 false res.2.2.2.2 (fun _ => 0) (fun _ => 0)) H := by rw [← e1, ← e2]; exact hP
          have hD : va_D A (wM o nA_1 nA_2 nA_3 cI (rR a1) (rC a2) res.1 res.2.1 res.2.2.1 res.2.2.2.1 true false 0 0 96 0 0 0 0 0 false false false false 0 false res.2.2.2.2 (fun _ => 0) (fun _ => 0)) := by rw [← e1, ← e2]; exact hD
          refine W.widen (k := 3) (n := 36868) (by omega) (by omega) ?_
          exact my_retv (fun i => ([nA_1, nA_2, nA_3] : List Nat).getD i 0) hx hb hr hlocks hK hP hD hS dX6_init_99
        · have _h := cc_2
          refine lv_sipush (v := 132) hx hb dX6_init_84 (by decide) ?_
          refine lv_goto (tgt := 91) hx hb dX6_init_87 (by decide) ?_
          refine va_putF (D := (dC, dI)) (ci := 7) (v := .int 132) (C := RX6) (T := TX6) (N := 25) hx hb hts uu_X6_init_X6 tyX6 tyX6_ok nmX6 hown hK hP hD hS 0 rfl rfl 1 (by decide) (hts (.fieldLink RX6 30 "BlockScreenModel" "allColumns" "I") (List.mem_of_getElem? (i := 11) rfl)) (fun _ h9 => h9) rfl hnm rfl (tyX6_ok 1 (by decide)) rfl rfl (Nat.le_of_ble_eq_true rfl) dX6_init_91 (fun H locs hP hD hS => ?_)
          have hP : va_P (dC, dI) vwCl ([(o, .inr (7, [.int a1, .int 132, .int 0, .int 0, .int 0, .int 0, .ref nA_1, .int 1, .int 0, .int 0, .int 0, .int 96, .int 0, .ref nA_2, .int 0, .int 0, .int 0, .int 0, .int 0, .int 0, .int 0, .int 0, .ref nA_3, .int 0, .int 0])), (nA_1, .inl (cI, 5676, .inl (fun _ => 0))), (nA_2, .inl (cI, 8192, .inl (fun _ => 0))), (nA_3, .inl (cI, 23000, .inl (fun _ => 0)))]) H := hP
          have hD : va_D A ([(o, .inr (7, [.int a1, .int 132, .int 0, .int 0, .int 0, .int 0, .ref nA_1, .int 1, .int 0, .int 0, .int 0, .int 96, .int 0, .ref nA_2, .int 0, .int 0, .int 0, .int 0, .int 0, .int 0, .int 0, .int 0, .ref nA_3, .int 0, .int 0])), (nA_1, .inl (cI, 5676, .inl (fun _ => 0))), (nA_2, .inl (cI, 8192, .inl (fun _ => 0))), (nA_3, .inl (cI, 23000, .inl (fun _ => 0)))]) := hD
          refine lv_aload_n hx hb dX6_init_94 rfl (lv_at hl 0 rfl) ?_
          refine lv_iconst (v := 0) hx hb dX6_init_95 (by decide) ?_
          have e1 : a1 = rR a1 := by unfold rR; simp only [if_pos cr_1, if_pos cr_2]
          have e2 : 132 = rC a2 := by unfold rC; simp only [if_pos cc_1, if_neg cc_2]
          have hf2 := hf
          rw [← e1, ← e2] at hf2
          have hP : va_P (dC, dI) vwCl (wM o nA_1 nA_2 nA_3 cI a1 132 0 0 0 0 true false 0 0 96 0 0 0 0 0 false false false false 0 false (fun _ => 0) (fun _ => 0) (fun _ => 0)) H := hP
          have hD : va_D A (wM o nA_1 nA_2 nA_3 cI a1 132 0 0 0 0 true false 0 0 96 0 0 0 0 0 false false false false 0 false (fun _ => 0) (fun _ => 0) (fun _ => 0)) := hD
          refine my_cVv (As := [.int (b2i false)]) (rest := []) ⟨hx, hb, hml, hown, hts⟩ (c_X6_use l dC dI cI o nA_1 nA_2 nA_3 a1 132 0 0 0 0 true false 0 0 96 0 0 0 0 0 false false false false 0 false (fun _ => 0) (fun _ => 0) (fun _ => 0) _ false res hf2) (cwV 1 hts gX6_init_X6_use rfl rfl rfl (by decide +kernel) ⟨Nat.le_of_ble_eq_true rfl, Nat.le_of_ble_eq_true rfl⟩) hK hP hD hS hA 0 7 rfl rfl rfl hl.1 rfl (Nat.le_of_ble_eq_true rfl) dX6_init_96 ⟨by show (((0 + 1) + 1) + 1) + 0 ≤ 3; omega, by show (((0 + 5676) + 8192) + 23000) + 0 ≤ 36868; omega⟩ (fun _ H locs hP hD hS => ?_)
          have hP : va_P (dC, dI) vwCl (wM o nA_1 nA_2 nA_3 cI a1 132 res.1 res.2.1 res.2.2.1 res.2.2.2.1 true false 0 0 96 0 0 0 0 0 false false false false 0 false res.2.2.2.2 (fun _ => 0) (fun _ => 0)) H := hP
          have hD : va_D A (wM o nA_1 nA_2 nA_3 cI a1 132 res.1 res.2.1 res.2.2.1 res.2.2.2.1 true false 0 0 96 0 0 0 0 0 false false false false 0 false res.2.2.2.2 (fun _ => 0) (fun _ => 0)) := hD
          have hP : va_P (dC, dI) vwCl (wM o nA_1 nA_2 nA_3 cI (rR a1) (rC a2) res.1 res.2.1 res.2.2.1 res.2.2.2.1 true false 0 0 96 0 0 0 0 0 false false false false 0 false res.2.2.2.2 (fun _ => 0) (fun _ => 0)) H := by rw [← e1, ← e2]; exact hP
          have hD : va_D A (wM o nA_1 nA_2 nA_3 cI (rR a1) (rC a2) res.1 res.2.1 res.2.2.1 res.2.2.2.1 true false 0 0 96 0 0 0 0 0 false false false false 0 false res.2.2.2.2 (fun _ => 0) (fun _ => 0)) := by rw [← e1, ← e2]; exact hD
          refine W.widen (k := 3) (n := 36868) (by omega) (by omega) ?_
          exact my_retv (fun i => ([nA_1, nA_2, nA_3] : List Nat).getD i 0) hx hb hr hlocks hK hP hD hS dX6_init_99
      · have _h := cc_1
        refine lv_iconst (v := 1) hx hb dX6_init_73 (by decide) ?_
        refine lv_goto (tgt := 91) hx hb dX6_init_74 (by decide) ?_
        refine va_putF (D := (dC, dI)) (ci := 7) (v := .int 1) (C := RX6) (T := TX6) (N := 25) hx hb hts uu_X6_init_X6 tyX6 tyX6_ok nmX6 hown hK hP hD hS 0 rfl rfl 1 (by decide) (hts (.fieldLink RX6 30 "BlockScreenModel" "allColumns" "I") (List.mem_of_getElem? (i := 11) rfl)) (fun _ h9 => h9) rfl hnm rfl (tyX6_ok 1 (by decide)) rfl rfl (Nat.le_of_ble_eq_true rfl) dX6_init_91 (fun H locs hP hD hS => ?_)
        have hP : va_P (dC, dI) vwCl ([(o, .inr (7, [.int a1, .int 1, .int 0, .int 0, .int 0, .int 0, .ref nA_1, .int 1, .int 0, .int 0, .int 0, .int 96, .int 0, .ref nA_2, .int 0, .int 0, .int 0, .int 0, .int 0, .int 0, .int 0, .int 0, .ref nA_3, .int 0, .int 0])), (nA_1, .inl (cI, 5676, .inl (fun _ => 0))), (nA_2, .inl (cI, 8192, .inl (fun _ => 0))), (nA_3, .inl (cI, 23000, .inl (fun _ => 0)))]) H := hP
        have hD : va_D A ([(o, .inr (7, [.int a1, .int 1, .int 0, .int 0, .int 0, .int 0, .ref nA_1, .int 1, .int 0, .int 0, .int 0, .int 96, .int 0, .ref nA_2, .int 0, .int 0, .int 0, .int 0, .int 0, .int 0, .int 0, .int 0, .ref nA_3, .int 0, .int 0])), (nA_1, .inl (cI, 5676, .inl (fun _ => 0))), (nA_2, .inl (cI, 8192, .inl (fun _ => 0))), (nA_3, .inl (cI, 23000, .inl (fun _ => 0)))]) := hD
        refine lv_aload_n hx hb dX6_init_94 rfl (lv_at hl 0 rfl) ?_
        refine lv_iconst (v := 0) hx hb dX6_init_95 (by decide) ?_
        have e1 : a1 = rR a1 := by unfold rR; simp only [if_pos cr_1, if_pos cr_2]
        have e2 : 1 = rC a2 := by unfold rC; simp only [if_neg cc_1]
        have hf2 := hf
        rw [← e1, ← e2] at hf2
        have hP : va_P (dC, dI) vwCl (wM o nA_1 nA_2 nA_3 cI a1 1 0 0 0 0 true false 0 0 96 0 0 0 0 0 false false false false 0 false (fun _ => 0) (fun _ => 0) (fun _ => 0)) H := hP
        have hD : va_D A (wM o nA_1 nA_2 nA_3 cI a1 1 0 0 0 0 true false 0 0 96 0 0 0 0 0 false false false false 0 false (fun _ => 0) (fun _ => 0) (fun _ => 0)) := hD
        refine my_cVv (As := [.int (b2i false)]) (rest := []) ⟨hx, hb, hml, hown, hts⟩ (c_X6_use l dC dI cI o nA_1 nA_2 nA_3 a1 1 0 0 0 0 true false 0 0 96 0 0 0 0 0 false false false false 0 false (fun _ => 0) (fun _ => 0) (fun _ => 0) _ false res hf2) (cwV 1 hts gX6_init_X6_use rfl rfl rfl (by decide +kernel) ⟨Nat.le_of_ble_eq_true rfl, Nat.le_of_ble_eq_true rfl⟩) hK hP hD hS hA 0 7 rfl rfl rfl hl.1 rfl (Nat.le_of_ble_eq_true rfl) dX6_init_96 ⟨by show (((0 + 1) + 1) + 1) + 0 ≤ 3; omega, by show (((0 + 5676) + 8192) + 23000) + 0 ≤ 36868; omega⟩ (fun _ H locs hP hD hS => ?_)
        have hP : va_P (dC, dI) vwCl (wM o nA_1 nA_2 nA_3 cI a1 1 res.1 res.2.1 res.2.2.1 res.2.2.2.1 true false 0 0 96 0 0 0 0 0 false false false false 0 false res.2.2.2.2 (fun _ => 0) (fun _ => 0)) H := hP
        have hD : va_D A (wM o nA_1 nA_2 nA_3 cI a1 1 res.1 res.2.1 res.2.2.1 res.2.2.2.1 true false 0 0 96 0 0 0 0 0 false false false false 0 false res.2.2.2.2 (fun _ => 0) (fun _ => 0)) := hD
        have hP : va_P (dC, dI) vwCl (wM o nA_1 nA_2 nA_3 cI (rR a1) (rC a2) res.1 res.2.1 res.2.2.1 res.2.2.2.1 true false 0 0 96 0 0 0 0 0 false false false false 0 false res.2.2.2.2 (fun _ => 0) (fun _ => 0)) H := by rw [← e1, ← e2]; exact hP
        have hD : va_D A (wM o nA_1 nA_2 nA_3 cI (rR a1) (rC a2) res.1 res.2.1 res.2.2.1 res.2.2.2.1 true false 0 0 96 0 0 0 0 0 false false false false 0 false res.2.2.2.2 (fun _ => 0) (fun _ => 0)) := by rw [← e1, ← e2]; exact hD
        refine W.widen (k := 3) (n := 36868) (by omega) (by omega) ?_
        exact my_retv (fun i => ([nA_1, nA_2, nA_3] : List Nat).getD i 0) hx hb hr hlocks hK hP hD hS dX6_init_99
    · have _h := cr_2
      refine lv_bipush (v := 43) hx hb dX6_init_58 (by decide) ?_
      refine lv_goto (tgt := 64) hx hb dX6_init_60 (by decide) ?_
      refine va_putF (D := (dC, dI)) (ci := 7) (v := .int 43) (C := RX6) (T := TX6) (N := 25) hx hb hts uu_X6_init_X6 tyX6 tyX6_ok nmX6 hown hK hP hD hS 0 rfl rfl 0 (by decide) (hts (.fieldLink RX6 27 "BlockScreenModel" "allRows" "I") (List.mem_of_getElem? (i := 10) rfl)) (fun _ h9 => h9) rfl hnm rfl (tyX6_ok 0 (by decide)) rfl rfl (Nat.le_of_ble_eq_true rfl) dX6_init_64 (fun H locs hP hD hS => ?_)
      have hP : va_P (dC, dI) vwCl ([(o, .inr (7, [.int 43, .int 0, .int 0, .int 0, .int 0, .int 0, .ref nA_1, .int 1, .int 0, .int 0, .int 0, .int 96, .int 0, .ref nA_2, .int 0, .int 0, .int 0, .int 0, .int 0, .int 0, .int 0, .int 0, .ref nA_3, .int 0, .int 0])), (nA_1, .inl (cI, 5676, .inl (fun _ => 0))), (nA_2, .inl (cI, 8192, .inl (fun _ => 0))), (nA_3, .inl (cI, 23000, .inl (fun _ => 0)))]) H := hP
      have hD : va_D A ([(o, .inr (7, [.int 43, .int 0, .int 0, .int 0, .int 0, .int 0, .ref nA_1, .int 1, .int 0, .int 0, .int 0, .int 96, .int 0, .ref nA_2, .int 0, .int 0, .int 0, .int 0, .int 0, .int 0, .int 0, .int 0, .ref nA_3, .int 0, .int 0])), (nA_1, .inl (cI, 5676, .inl (fun _ => 0))), (nA_2, .inl (cI, 8192, .inl (fun _ => 0))), (nA_3, .inl (cI, 23000, .inl (fun _ => 0)))]) := hD
      refine lv_aload_n hx hb dX6_init_67 rfl (lv_at hl 0 rfl) ?_
      refine lv_iload_n hx hb dX6_init_68 rfl (lv_at hl 2 rfl) ?_
      refine lv_iconst (v := 1) hx hb dX6_init_69 (by decide) ?_
      refine lv_icmp_ge (tgt := 77) hx hb dX6_init_70 (by decide) (fun cc_1 => ?_) (fun cc_1 => ?_)
      · have _h := cc_1
        refine lv_iload_n hx hb dX6_init_77 rfl (lv_at hl 2 rfl) ?_
        refine lv_sipush (v := 132) hx hb dX6_init_78 (by decide) ?_
        refine lv_icmp_le (tgt := 90) hx hb dX6_init_81 (by decide) (fun cc_2 => ?_) (fun cc_2 => ?_)
        · have _h := cc_2
          refine lv_iload_n hx hb dX6_init_90 rfl (lv_at hl 2 rfl) ?_
          refine va_putF (D := (dC, dI)) (ci := 7) (v := .int a2) (C := RX6) (T := TX6) (N := 25) hx hb hts uu_X6_init_X6 tyX6 tyX6_ok nmX6 hown hK hP hD hS 0 rfl rfl 1 (by decide) (hts (.fieldLink RX6 30 "BlockScreenModel" "allColumns" "I") (List.mem_of_getElem? (i := 11) rfl)) (fun _ h9 => h9) rfl hnm rfl (tyX6_ok 1 (by decide)) rfl rfl (Nat.le_of_ble_eq_true rfl) dX6_init_91 (fun H locs hP hD hS => ?_)
          have hP : va_P (dC, dI) vwCl ([(o, .inr (7, [.int 43, .int a2, .int 0, .int 0, .int 0, .int 0, .ref nA_1, .int 1, .int 0, .int 0, .int 0, .int 96, .int 0, .ref nA_2, .int 0, .int 0, .int 0, .int 0, .int 0, .int 0, .int 0, .int 0, .ref nA_3, .int 0, .int 0])), (nA_1, .inl (cI, 5676, .inl (fun _ => 0))), (nA_2, .inl (cI, 8192, .inl (fun _ => 0))), (nA_3, .inl (cI, 23000, .inl (fun _ => 0)))]) H := hP
          have hD : va_D A ([(o, .inr (7, [.int 43, .int a2, .int 0, .int 0, .int 0, .int 0, .ref nA_1, .int 1, .int 0, .int 0, .int 0, .int 96, .int 0, .ref nA_2, .int 0, .int 0, .int 0, .int 0, .int 0, .int 0, .int 0, .int 0, .ref nA_3, .int 0, .int 0])), (nA_1, .inl (cI, 5676, .inl (fun _ => 0))), (nA_2, .inl (cI, 8192, .inl (fun _ => 0))), (nA_3, .inl (cI, 23000, .inl (fun _ => 0)))]) := hD
          refine lv_aload_n hx hb dX6_init_94 rfl (lv_at hl 0 rfl) ?_
          refine lv_iconst (v := 0) hx hb dX6_init_95 (by decide) ?_
          have e1 : 43 = rR a1 := by unfold rR; simp only [if_pos cr_1, if_neg cr_2]
          have e2 : a2 = rC a2 := by unfold rC; simp only [if_pos cc_1, if_pos cc_2]
          have hf2 := hf
          rw [← e1, ← e2] at hf2
          have hP : va_P (dC, dI) vwCl (wM o nA_1 nA_2 nA_3 cI 43 a2 0 0 0 0 true false 0 0 96 0 0 0 0 0 false false false false 0 false (fun _ => 0) (fun _ => 0) (fun _ => 0)) H := hP
          have hD : va_D A (wM o nA_1 nA_2 nA_3 cI 43 a2 0 0 0 0 true false 0 0 96 0 0 0 0 0 false false false false 0 false (fun _ => 0) (fun _ => 0) (fun _ => 0)) := hD
          refine my_cVv (As := [.int (b2i false)]) (rest := []) ⟨hx, hb, hml, hown, hts⟩ (c_X6_use l dC dI cI o nA_1 nA_2 nA_3 43 a2 0 0 0 0 true false 0 0 96 0 0 0 0 0 false false false false 0 false (fun _ => 0) (fun _ => 0) (fun _ => 0) _ false res hf2) (cwV 1 hts gX6_init_X6_use rfl rfl rfl (by decide +kernel) ⟨Nat.le_of_ble_eq_true rfl, Nat.le_of_ble_eq_true rfl⟩) hK hP hD hS hA 0 7 rfl rfl rfl hl.1 rfl (Nat.le_of_ble_eq_true rfl) dX6_init_96 ⟨by show (((0 + 1) + 1) + 1) + 0 ≤ 3; omega, by show (((0 + 5676) + 8192) + 23000) + 0 ≤ 36868; omega⟩ (fun _ H locs hP hD hS => ?_)
          have hP : va_P (dC, dI) vwCl (wM o nA_1 nA_2 nA_3 cI 43 a2 res.1 res.2.1 res.2.2.1 res.2.2.2.1 true false 0 0 96 0 0 0 0 0 false false false false 0 false res.2.2.2.2 (fun _ => 0) (fun _ => 0)) H := hP
          have hD : va_D A (wM o nA_1 nA_2 nA_3 cI 43 a2 res.1 res.2.1 res.2.2.1 res.2.2.2.1 true false 0 0 96 0 0 0 0 0 false false false false 0 false res.2.2.2.2 (fun _ => 0) (fun _ => 0)) := hD
          have hP : va_P (dC, dI) vwCl (wM o nA_1 nA_2 nA_3 cI (rR a1) (rC a2) res.1 res.2.1 res.2.2.1 res.2.2.2.1 true false 0 0 96 0 0 0 0 0 false false false false 0 false res.2.2.2.2 (fun _ => 0) (fun _ => 0)) H := by rw [← e1, ← e2]; exact hP
          have hD : va_D A (wM o nA_1 nA_2 nA_3 cI (rR a1) (rC a2) res.1 res.2.1 res.2.2.1 res.2.2.2.1 true false 0 0 96 0 0 0 0 0 false false false false 0 false res.2.2.2.2 (fun _ => 0) (fun _ => 0)) := by rw [← e1, ← e2]; exact hD
          refine W.widen (k := 3) (n := 36868) (by omega) (by omega) ?_
          exact my_retv (fun i => ([nA_1, nA_2, nA_3] : List Nat).getD i 0) hx hb hr hlocks hK hP hD hS dX6_init_99
        · have _h := cc_2
          refine lv_sipush (v := 132) hx hb dX6_init_84 (by decide) ?_
          refine lv_goto (tgt := 91) hx hb dX6_init_87 (by decide) ?_
          refine va_putF (D := (dC, dI)) (ci := 7) (v := .int 132) (C := RX6) (T := TX6) (N := 25) hx hb hts uu_X6_init_X6 tyX6 tyX6_ok nmX6 hown hK hP hD hS 0 rfl rfl 1 (by decide) (hts (.fieldLink RX6 30 "BlockScreenModel" "allColumns" "I") (List.mem_of_getElem? (i := 11) rfl)) (fun _ h9 => h9) rfl hnm rfl (tyX6_ok 1 (by decide)) rfl rfl (Nat.le_of_ble_eq_true rfl) dX6_init_91 (fun H locs hP hD hS => ?_)
          have hP : va_P (dC, dI) vwCl ([(o, .inr (7, [.int 43, .int 132, .int 0, .int 0, .int 0, .int 0, .ref nA_1, .int 1, .int 0, .int 0, .int 0, .int 96, .int 0, .ref nA_2, .int 0, .int 0, .int 0, .int 0, .int 0, .int 0, .int 0, .int 0, .ref nA_3, .int 0, .int 0])), (nA_1, .inl (cI, 5676, .inl (fun _ => 0))), (nA_2, .inl (cI, 8192, .inl (fun _ => 0))), (nA_3, .inl (cI, 23000, .inl (fun _ => 0)))]) H := hP
          have hD : va_D A ([(o, .inr (7, [.int 43, .int 132, .int 0, .int 0, .int 0, .int 0, .ref nA_1, .int 1, .int 0, .int 0, .int 0, .int 96, .int 0, .ref nA_2, .int 0, .int 0, .int 0, .int 0, .int 0, .int 0, .int 0, .int 0, .ref nA_3, .int 0, .int 0])), (nA_1, .inl (cI, 5676, .inl (fun _ => 0))), (nA_2, .inl (cI, 8192, .inl (fun _ => 0))), (nA_3, .inl (cI, 23000, .inl (fun _ => 0)))]) := hD
          refine lv_aload_n hx hb dX6_init_94 rfl (lv_at hl 0 rfl) ?_
          refine lv_iconst (v := 0) hx hb dX6_init_95 (by decide) ?_
          have e1 : 43 = rR a1 := by unfold rR; simp only [if_pos cr_1, if_neg cr_2]
          have e2 : 132 = rC a2 := by unfold rC; simp only [if_pos cc_1, if_neg cc_2]
          have hf2 := hf
          rw [← e1, ← e2] at hf2
          have hP : va_P (dC, dI) vwCl (wM o nA_1 nA_2 nA_3 cI 43 132 0 0 0 0 true false 0 0 96 0 0 0 0 0 false false false false 0 false (fun _ => 0) (fun _ => 0) (fun _ => 0)) H := hP
          have hD : va_D A (wM o nA_1 nA_2 nA_3 cI 43 132 0 0 0 0 true false 0 0 96 0 0 0 0 0 false false false false 0 false (fun _ => 0) (fun _ => 0) (fun _ => 0)) := hD
          refine my_cVv (As := [.int (b2i false)]) (rest := []) ⟨hx, hb, hml, hown, hts⟩ (c_X6_use l dC dI cI o nA_1 nA_2 nA_3 43 132 0 0 0 0 true false 0 0 96 0 0 0 0 0 false false false false 0 false (fun _ => 0) (fun _ => 0) (fun _ => 0) _ false res hf2) (cwV 1 hts gX6_init_X6_use rfl rfl rfl (by decide +kernel) ⟨Nat.le_of_ble_eq_true rfl, Nat.le_of_ble_eq_true rfl⟩) hK hP hD hS hA 0 7 rfl rfl rfl hl.1 rfl (Nat.le_of_ble_eq_true rfl) dX6_init_96 ⟨by show (((0 + 1) + 1) + 1) + 0 ≤ 3; omega, by show (((0 + 5676) + 8192) + 23000) + 0 ≤ 36868; omega⟩ (fun _ H locs hP hD hS => ?_)
          have hP : va_P (dC, dI) vwCl (wM o nA_1 nA_2 nA_3 cI 43 132 res.1 res.2.1 res.2.2.1 res.2.2.2.1 true false 0 0 96 0 0 0 0 0 false false false false 0 false res.2.2.2.2 (fun _ => 0) (fun _ => 0)) H := hP
          have hD : va_D A (wM o nA_1 nA_2 nA_3 cI 43 132 res.1 res.2.1 res.2.2.1 res.2.2.2.1 true false 0 0 96 0 0 0 0 0 false false false false 0 false res.2.2.2.2 (fun _ => 0) (fun _ => 0)) := hD
          have hP : va_P (dC, dI) vwCl (wM o nA_1 nA_2 nA_3 cI (rR a1) (rC a2) res.1 res.2.1 res.2.2.1 res.2.2.2.1 true false 0 0 96 0 0 0 0 0 false false false false 0 false res.2.2.2.2 (fun _ => 0) (fun _ => 0)) H := by rw [← e1, ← e2]; exact hP
          have hD : va_D A (wM o nA_1 nA_2 nA_3 cI (rR a1) (rC a2) res.1 res.2.1 res.2.2.1 res.2.2.2.1 true false 0 0 96 0 0 0 0 0 false false false false 0 false res.2.2.2.2 (fun _ => 0) (fun _ => 0)) := by rw [← e1, ← e2]; exact hD
          refine W.widen (k := 3) (n := 36868) (by omega) (by omega) ?_
          exact my_retv (fun i => ([nA_1, nA_2, nA_3] : List Nat).getD i 0) hx hb hr hlocks hK hP hD hS dX6_init_99
      · have _h := cc_1
        refine lv_iconst (v := 1) hx hb dX6_init_73 (by decide) ?_
        refine lv_goto (tgt := 91) hx hb dX6_init_74 (by decide) ?_
        refine va_putF (D := (dC, dI)) (ci := 7) (v := .int 1) (C := RX6) (T := TX6) (N := 25) hx hb hts uu_X6_init_X6 tyX6 tyX6_ok nmX6 hown hK hP hD hS 0 rfl rfl 1 (by decide) (hts (.fieldLink RX6 30 "BlockScreenModel" "allColumns" "I") (List.mem_of_getElem? (i := 11) rfl)) (fun _ h9 => h9) rfl hnm rfl (tyX6_ok 1 (by decide)) rfl rfl (Nat.le_of_ble_eq_true rfl) dX6_init_91 (fun H locs hP hD hS => ?_)
        have hP : va_P (dC, dI) vwCl ([(o, .inr (7, [.int 43, .int 1, .int 0, .int 0, .int 0, .int 0, .ref nA_1, .int 1, .int 0, .int 0, .int 0, .int 96, .int 0, .ref nA_2, .int 0, .int 0, .int 0, .int 0, .int 0, .int 0, .int 0, .int 0, .ref nA_3, .int 0, .int 0])), (nA_1, .inl (cI, 5676, .inl (fun _ => 0))), (nA_2, .inl (cI, 8192, .inl (fun _ => 0))), (nA_3, .inl (cI, 23000, .inl (fun _ => 0)))]) H := hP
        have hD : va_D A ([(o, .inr (7, [.int 43, .int 1, .int 0, .int 0, .int 0, .int 0, .ref nA_1, .int 1, .int 0, .int 0, .int 0, .int 96, .int 0, .ref nA_2, .int 0, .int 0, .int 0, .int 0, .int 0, .int 0, .int 0, .int 0, .ref nA_3, .int 0, .int 0])), (nA_1, .inl (cI, 5676, .inl (fun _ => 0))), (nA_2, .inl (cI, 8192, .inl (fun _ => 0))), (nA_3, .inl (cI, 23000, .inl (fun _ => 0)))]) := hD
        refine lv_aload_n hx hb dX6_init_94 rfl (lv_at hl 0 rfl) ?_
        refine lv_iconst (v := 0) hx hb dX6_init_95 (by decide) ?_
        have e1 : 43 = rR a1 := by unfold rR; simp only [if_pos cr_1, if_neg cr_2]
        have e2 : 1 = rC a2 := by unfold rC; simp only [if_neg cc_1]
        have hf2 := hf
        rw [← e1, ← e2] at hf2
        have hP : va_P (dC, dI) vwCl (wM o nA_1 nA_2 nA_3 cI 43 1 0 0 0 0 true false 0 0 96 0 0 0 0 0 false false false false 0 false (fun _ => 0) (fun _ => 0) (fun _ => 0)) H := hP
        have hD : va_D A (wM o nA_1 nA_2 nA_3 cI 43 1 0 0 0 0 true false 0 0 96 0 0 0 0 0 false false false false 0 false (fun _ => 0) (fun _ => 0) (fun _ => 0)) := hD
        refine my_cVv (As := [.int (b2i false)]) (rest := []) ⟨hx, hb, hml, hown, hts⟩ (c_X6_use l dC dI cI o nA_1 nA_2 nA_3 43 1 0 0 0 0 true false 0 0 96 0 0 0 0 0 false false false false 0 false (fun _ => 0) (fun _ => 0) (fun _ => 0) _ false res hf2) (cwV 1 hts gX6_init_X6_use rfl rfl rfl (by decide +kernel) ⟨Nat.le_of_ble_eq_true rfl, Nat.le_of_ble_eq_true rfl⟩) hK hP hD hS hA 0 7 rfl rfl rfl hl.1 rfl (Nat.le_of_ble_eq_true rfl) dX6_init_96 ⟨by show (((0 + 1) + 1) + 1) + 0 ≤ 3; omega, by show (((0 + 5676) + 8192) + 23000) + 0 ≤ 36868; omega⟩ (fun _ H locs hP hD hS => ?_)
        have hP : va_P (dC, dI) vwCl (wM o nA_1 nA_2 nA_3 cI 43 1 res.1 res.2.1 res.2.2.1 res.2.2.2.1 true false 0 0 96 0 0 0 0 0 false false false false 0 false res.2.2.2.2 (fun _ => 0) (fun _ => 0)) H := hP
        have hD : va_D A (wM o nA_1 nA_2 nA_3 cI 43 1 res.1 res.2.1 res.2.2.1 res.2.2.2.1 true false 0 0 96 0 0 0 0 0 false false false false 0 false res.2.2.2.2 (fun _ => 0) (fun _ => 0)) := hD
        have hP : va_P (dC, dI) vwCl (wM o nA_1 nA_2 nA_3 cI (rR a1) (rC a2) res.1 res.2.1 res.2.2.1 res.2.2.2.1 true false 0 0 96 0 0 0 0 0 false false false false 0 false res.2.2.2.2 (fun _ => 0) (fun _ => 0)) H := by rw [← e1, ← e2]; exact hP
        have hD : va_D A (wM o nA_1 nA_2 nA_3 cI (rR a1) (rC a2) res.1 res.2.1 res.2.2.1 res.2.2.2.1 true false 0 0 96 0 0 0 0 0 false false false false 0 false res.2.2.2.2 (fun _ => 0) (fun _ => 0)) := by rw [← e1, ← e2]; exact hD
        refine W.widen (k := 3) (n := 36868) (by omega) (by omega) ?_
        exact my_retv (fun i => ([nA_1, nA_2, nA_3] : List Nat).getD i 0) hx hb hr hlocks hK hP hD hS dX6_init_99
  · have _h := cr_1
    refine lv_iconst (v := 1) hx hb dX6_init_48 (by decide) ?_
    refine lv_goto (tgt := 64) hx hb dX6_init_49 (by decide) ?_
    refine va_putF (D := (dC, dI)) (ci := 7) (v := .int 1) (C := RX6) (T := TX6) (N := 25) hx hb hts uu_X6_init_X6 tyX6 tyX6_ok nmX6 hown hK hP hD hS 0 rfl rfl 0 (by decide) (hts (.fieldLink RX6 27 "BlockScreenModel" "allRows" "I") (List.mem_of_getElem? (i := 10) rfl)) (fun _ h9 => h9) rfl hnm rfl (tyX6_ok 0 (by decide)) rfl rfl (Nat.le_of_ble_eq_true rfl) dX6_init_64 (fun H locs hP hD hS => ?_)
    have hP : va_P (dC, dI) vwCl ([(o, .inr (7, [.int 1, .int 0, .int 0, .int 0, .int 0, .int 0, .ref nA_1, .int 1, .int 0, .int 0, .int 0, .int 96, .int 0, .ref nA_2, .int 0, .int 0, .int 0, .int 0, .int 0, .int 0, .int 0, .int 0, .ref nA_3, .int 0, .int 0])), (nA_1, .inl (cI, 5676, .inl (fun _ => 0))), (nA_2, .inl (cI, 8192, .inl (fun _ => 0))), (nA_3, .inl (cI, 23000, .inl (fun _ => 0)))]) H := hP
    have hD : va_D A ([(o, .inr (7, [.int 1, .int 0, .int 0, .int 0, .int 0, .int 0, .ref nA_1, .int 1, .int 0, .int 0, .int 0, .int 96, .int 0, .ref nA_2, .int 0, .int 0, .int 0, .int 0, .int 0, .int 0, .int 0, .int 0, .ref nA_3, .int 0, .int 0])), (nA_1, .inl (cI, 5676, .inl (fun _ => 0))), (nA_2, .inl (cI, 8192, .inl (fun _ => 0))), (nA_3, .inl (cI, 23000, .inl (fun _ => 0)))]) := hD
    refine lv_aload_n hx hb dX6_init_67 rfl (lv_at hl 0 rfl) ?_
    refine lv_iload_n hx hb dX6_init_68 rfl (lv_at hl 2 rfl) ?_
    refine lv_iconst (v := 1) hx hb dX6_init_69 (by decide) ?_
    refine lv_icmp_ge (tgt := 77) hx hb dX6_init_70 (by decide) (fun cc_1 => ?_) (fun cc_1 => ?_)
    · have _h := cc_1
      refine lv_iload_n hx hb dX6_init_77 rfl (lv_at hl 2 rfl) ?_
      refine lv_sipush (v := 132) hx hb dX6_init_78 (by decide) ?_
      refine lv_icmp_le (tgt := 90) hx hb dX6_init_81 (by decide) (fun cc_2 => ?_) (fun cc_2 => ?_)
      · have _h := cc_2
        refine lv_iload_n hx hb dX6_init_90 rfl (lv_at hl 2 rfl) ?_
        refine va_putF (D := (dC, dI)) (ci := 7) (v := .int a2) (C := RX6) (T := TX6) (N := 25) hx hb hts uu_X6_init_X6 tyX6 tyX6_ok nmX6 hown hK hP hD hS 0 rfl rfl 1 (by decide) (hts (.fieldLink RX6 30 "BlockScreenModel" "allColumns" "I") (List.mem_of_getElem? (i := 11) rfl)) (fun _ h9 => h9) rfl hnm rfl (tyX6_ok 1 (by decide)) rfl rfl (Nat.le_of_ble_eq_true rfl) dX6_init_91 (fun H locs hP hD hS => ?_)
        have hP : va_P (dC, dI) vwCl ([(o, .inr (7, [.int 1, .int a2, .int 0, .int 0, .int 0, .int 0, .ref nA_1, .int 1, .int 0, .int 0, .int 0, .int 96, .int 0, .ref nA_2, .int 0, .int 0, .int 0, .int 0, .int 0, .int 0, .int 0, .int 0, .ref nA_3, .int 0, .int 0])), (nA_1, .inl (cI, 5676, .inl (fun _ => 0))), (nA_2, .inl (cI, 8192, .inl (fun _ => 0))), (nA_3, .inl (cI, 23000, .inl (fun _ => 0)))]) H := hP
        have hD : va_D A ([(o, .inr (7, [.int 1, .int a2, .int 0, .int 0, .int 0, .int 0, .ref nA_1, .int 1, .int 0, .int 0, .int 0, .int 96, .int 0, .ref nA_2, .int 0, .int 0, .int 0, .int 0, .int 0, .int 0, .int 0, .int 0, .ref nA_3, .int 0, .int 0])), (nA_1, .inl (cI, 5676, .inl (fun _ => 0))), (nA_2, .inl (cI, 8192, .inl (fun _ => 0))), (nA_3, .inl (cI, 23000, .inl (fun _ => 0)))]) := hD
        refine lv_aload_n hx hb dX6_init_94 rfl (lv_at hl 0 rfl) ?_
        refine lv_iconst (v := 0) hx hb dX6_init_95 (by decide) ?_
        have e1 : 1 = rR a1 := by unfold rR; simp only [if_neg cr_1]
        have e2 : a2 = rC a2 := by unfold rC; simp only [if_pos cc_1, if_pos cc_2]
        have hf2 := hf
        rw [← e1, ← e2] at hf2
        have hP : va_P (dC, dI) vwCl (wM o nA_1 nA_2 nA_3 cI 1 a2 0 0 0 0 true false 0 0 96 0 0 0 0 0 false false false false 0 false (fun _ => 0) (fun _ => 0) (fun _ => 0)) H := hP
        have hD : va_D A (wM o nA_1 nA_2 nA_3 cI 1 a2 0 0 0 0 true false 0 0 96 0 0 0 0 0 false false false false 0 false (fun _ => 0) (fun _ => 0) (fun _ => 0)) := hD
        refine my_cVv (As := [.int (b2i false)]) (rest := []) ⟨hx, hb, hml, hown, hts⟩ (c_X6_use l dC dI cI o nA_1 nA_2 nA_3 1 a2 0 0 0 0 true false 0 0 96 0 0 0 0 0 false false false false 0 false (fun _ => 0) (fun _ => 0) (fun _ => 0) _ false res hf2) (cwV 1 hts gX6_init_X6_use rfl rfl rfl (by decide +kernel) ⟨Nat.le_of_ble_eq_true rfl, Nat.le_of_ble_eq_true rfl⟩) hK hP hD hS hA 0 7 rfl rfl rfl hl.1 rfl (Nat.le_of_ble_eq_true rfl) dX6_init_96 ⟨by show (((0 + 1) + 1) + 1) + 0 ≤ 3; omega, by show (((0 + 5676) + 8192) + 23000) + 0 ≤ 36868; omega⟩ (fun _ H locs hP hD hS => ?_)
        have hP : va_P (dC, dI) vwCl (wM o nA_1 nA_2 nA_3 cI 1 a2 res.1 res.2.1 res.2.2.1 res.2.2.2.1 true false 0 0 96 0 0 0 0 0 false false false false 0 false res.2.2.2.2 (fun _ => 0) (fun _ => 0)) H := hP
        have hD : va_D A (wM o nA_1 nA_2 nA_3 cI 1 a2 res.1 res.2.1 res.2.2.1 res.2.2.2.1 true false 0 0 96 0 0 0 0 0 false false false false 0 false res.2.2.2.2 (fun _ => 0) (fun _ => 0)) := hD
        have hP : va_P (dC, dI) vwCl (wM o nA_1 nA_2 nA_3 cI (rR a1) (rC a2) res.1 res.2.1 res.2.2.1 res.2.2.2.1 true false 0 0 96 0 0 0 0 0 false false false false 0 false res.2.2.2.2 (fun _ => 0) (fun _ => 0)) H := by rw [← e1, ← e2]; exact hP
        have hD : va_D A (wM o nA_1 nA_2 nA_3 cI (rR a1) (rC a2) res.1 res.2.1 res.2.2.1 res.2.2.2.1 true false 0 0 96 0 0 0 0 0 false false false false 0 false res.2.2.2.2 (fun _ => 0) (fun _ => 0)) := by rw [← e1, ← e2]; exact hD
        refine W.widen (k := 3) (n := 36868) (by omega) (by omega) ?_
        exact my_retv (fun i => ([nA_1, nA_2, nA_3] : List Nat).getD i 0) hx hb hr hlocks hK hP hD hS dX6_init_99
      · have _h := cc_2
        refine lv_sipush (v := 132) hx hb dX6_init_84 (by decide) ?_
        refine lv_goto (tgt := 91) hx hb dX6_init_87 (by decide) ?_
        refine va_putF (D := (dC, dI)) (ci := 7) (v := .int 132) (C := RX6) (T := TX6) (N := 25) hx hb hts uu_X6_init_X6 tyX6 tyX6_ok nmX6 hown hK hP hD hS 0 rfl rfl 1 (by decide) (hts (.fieldLink RX6 30 "BlockScreenModel" "allColumns" "I") (List.mem_of_getElem? (i := 11) rfl)) (fun _ h9 => h9) rfl hnm rfl (tyX6_ok 1 (by decide)) rfl rfl (Nat.le_of_ble_eq_true rfl) dX6_init_91 (fun H locs hP hD hS => ?_)
        have hP : va_P (dC, dI) vwCl ([(o, .inr (7, [.int 1, .int 132, .int 0, .int 0, .int 0, .int 0, .ref nA_1, .int 1, .int 0, .int 0, .int 0, .int 96, .int 0, .ref nA_2, .int 0, .int 0, .int 0, .int 0, .int 0, .int 0, .int 0, .int 0, .ref nA_3, .int 0, .int 0])), (nA_1, .inl (cI, 5676, .inl (fun _ => 0))), (nA_2, .inl (cI, 8192, .inl (fun _ => 0))), (nA_3, .inl (cI, 23000, .inl (fun _ => 0)))]) H := hP
        have hD : va_D A ([(o, .inr (7, [.int 1, .int 132, .int 0, .int 0, .int 0, .int 0, .ref nA_1, .int 1, .int 0, .int 0, .int 0, .int 96, .int 0, .ref nA_2, .int 0, .int 0, .int 0, .int 0, .int 0, .int 0, .int 0, .int 0, .ref nA_3, .int 0, .int 0])), (nA_1, .inl (cI, 5676, .inl (fun _ => 0))), (nA_2, .inl (cI, 8192, .inl (fun _ => 0))), (nA_3, .inl (cI, 23000, .inl (fun _ => 0)))]) := hD
        refine lv_aload_n hx hb dX6_init_94 rfl (lv_at hl 0 rfl) ?_
        refine lv_iconst (v := 0) hx hb dX6_init_95 (by decide) ?_
        have e1 : 1 = rR a1 := by unfold rR; simp only [if_neg cr_1]
        have e2 : 132 = rC a2 := by unfold rC; simp only [if_pos cc_1, if_neg cc_2]
        have hf2 := hf
        rw [← e1, ← e2] at hf2
        have hP : va_P (dC, dI) vwCl (wM o nA_1 nA_2 nA_3 cI 1 132 0 0 0 0 true false 0 0 96 0 0 0 0 0 false false false false 0 false (fun _ => 0) (fun _ => 0) (fun _ => 0)) H := hP
        have hD : va_D A (wM o nA_1 nA_2 nA_3 cI 1 132 0 0 0 0 true false 0 0 96 0 0 0 0 0 false false false false 0 false (fun _ => 0) (fun _ => 0) (fun _ => 0)) := hD
        refine my_cVv (As := [.int (b2i false)]) (rest := []) ⟨hx, hb, hml, hown, hts⟩ (c_X6_use l dC dI cI o nA_1 nA_2 nA_3 1 132 0 0 0 0 true false 0 0 96 0 0 0 0 0 false false false false 0 false (fun _ => 0) (fun _ => 0) (fun _ => 0) _ false res hf2) (cwV 1 hts gX6_init_X6_use rfl rfl rfl (by decide +kernel) ⟨Nat.le_of_ble_eq_true rfl, Nat.le_of_ble_eq_true rfl⟩) hK hP hD hS hA 0 7 rfl rfl rfl hl.1 rfl (Nat.le_of_ble_eq_true rfl) dX6_init_96 ⟨by show (((0 + 1) + 1) + 1) + 0 ≤ 3; omega, by show (((0 + 5676) + 8192) + 23000) + 0 ≤ 36868; omega⟩ (fun _ H locs hP hD hS => ?_)
        have hP : va_P (dC, dI) vwCl (wM o nA_1 nA_2 nA_3 cI 1 132 res.1 res.2.1 res.2.2.1 res.2.2.2.1 true false 0 0 96 0 0 0 0 0 false false false false 0 false res.2.2.2.2 (fun _ => 0) (fun _ => 0)) H := hP
        have hD : va_D A (wM o nA_1 nA_2 nA_3 cI 1 132 res.1 res.2.1 res.2.2.1 res.2.2.2.1 true false 0 0 96 0 0 0 0 0 false false false false 0 false res.2.2.2.2 (fun _ => 0) (fun _ => 0)) := hD
        have hP : va_P (dC, dI) vwCl (wM o nA_1 nA_2 nA_3 cI (rR a1) (rC a2) res.1 res.2.1 res.2.2.1 res.2.2.2.1 true false 0 0 96 0 0 0 0 0 false false false false 0 false res.2.2.2.2 (fun _ => 0) (fun _ => 0)) H := by rw [← e1, ← e2]; exact hP
        have hD : va_D A (wM o nA_1 nA_2 nA_3 cI (rR a1) (rC a2) res.1 res.2.1 res.2.2.1 res.2.2.2.1 true false 0 0 96 0 0 0 0 0 false false false false 0 false res.2.2.2.2 (fun _ => 0) (fun _ => 0)) := by rw [← e1, ← e2]; exact hD
        refine W.widen (k := 3) (n := 36868) (by omega) (by omega) ?_
        exact my_retv (fun i => ([nA_1, nA_2, nA_3] : List Nat).getD i 0) hx hb hr hlocks hK hP hD hS dX6_init_99
    · have _h := cc_1
      refine lv_iconst (v := 1) hx hb dX6_init_73 (by decide) ?_
      refine lv_goto (tgt := 91) hx hb dX6_init_74 (by decide) ?_
      refine va_putF (D := (dC, dI)) (ci := 7) (v := .int 1) (C := RX6) (T := TX6) (N := 25) hx hb hts uu_X6_init_X6 tyX6 tyX6_ok nmX6 hown hK hP hD hS 0 rfl rfl 1 (by decide) (hts (.fieldLink RX6 30 "BlockScreenModel" "allColumns" "I") (List.mem_of_getElem? (i := 11) rfl)) (fun _ h9 => h9) rfl hnm rfl (tyX6_ok 1 (by decide)) rfl rfl (Nat.le_of_ble_eq_true rfl) dX6_init_91 (fun H locs hP hD hS => ?_)
      have hP : va_P (dC, dI) vwCl ([(o, .inr (7, [.int 1, .int 1, .int 0, .int 0, .int 0, .int 0, .ref nA_1, .int 1, .int 0, .int 0, .int 0, .int 96, .int 0, .ref nA_2, .int 0, .int 0, .int 0, .int 0, .int 0, .int 0, .int 0, .int 0, .ref nA_3, .int 0, .int 0])), (nA_1, .inl (cI, 5676, .inl (fun _ => 0))), (nA_2, .inl (cI, 8192, .inl (fun _ => 0))), (nA_3, .inl (cI, 23000, .inl (fun _ => 0)))]) H := hP
      have hD : va_D A ([(o, .inr (7, [.int 1, .int 1, .int 0, .int 0, .int 0, .int 0, .ref nA_1, .int 1, .int 0, .int 0, .int 0, .int 96, .int 0, .ref nA_2, .int 0, .int 0, .int 0, .int 0, .int 0, .int 0, .int 0, .int 0, .ref nA_3, .int 0, .int 0])), (nA_1, .inl (cI, 5676, .inl (fun _ => 0))), (nA_2, .inl (cI, 8192, .inl (fun _ => 0))), (nA_3, .inl (cI, 23000, .inl (fun _ => 0)))]) := hD
      refine lv_aload_n hx hb dX6_init_94 rfl (lv_at hl 0 rfl) ?_
      refine lv_iconst (v := 0) hx hb dX6_init_95 (by decide) ?_
      have e1 : 1 = rR a1 := by unfold rR; simp only [if_neg cr_1]
      have e2 : 1 = rC a2 := by unfold rC; simp only [if_neg cc_1]
      have hf2 := hf
      rw [← e1, ← e2] at hf2
      have hP : va_P (dC, dI) vwCl (wM o nA_1 nA_2 nA_3 cI 1 1 0 0 0 0 true false 0 0 96 0 0 0 0 0 false false false false 0 false (fun _ => 0) (fun _ => 0) (fun _ => 0)) H := hP
      have hD : va_D A (wM o nA_1 nA_2 nA_3 cI 1 1 0 0 0 0 true false 0 0 96 0 0 0 0 0 false false false false 0 false (fun _ => 0) (fun _ => 0) (fun _ => 0)) := hD
      refine my_cVv (As := [.int (b2i false)]) (rest := []) ⟨hx, hb, hml, hown, hts⟩ (c_X6_use l dC dI cI o nA_1 nA_2 nA_3 1 1 0 0 0 0 true false 0 0 96 0 0 0 0 0 false false false false 0 false (fun _ => 0) (fun _ => 0) (fun _ => 0) _ false res hf2) (cwV 1 hts gX6_init_X6_use rfl rfl rfl (by decide +kernel) ⟨Nat.le_of_ble_eq_true rfl, Nat.le_of_ble_eq_true rfl⟩) hK hP hD hS hA 0 7 rfl rfl rfl hl.1 rfl (Nat.le_of_ble_eq_true rfl) dX6_init_96 ⟨by show (((0 + 1) + 1) + 1) + 0 ≤ 3; omega, by show (((0 + 5676) + 8192) + 23000) + 0 ≤ 36868; omega⟩ (fun _ H locs hP hD hS => ?_)
      have hP : va_P (dC, dI) vwCl (wM o nA_1 nA_2 nA_3 cI 1 1 res.1 res.2.1 res.2.2.1 res.2.2.2.1 true false 0 0 96 0 0 0 0 0 false false false false 0 false res.2.2.2.2 (fun _ => 0) (fun _ => 0)) H := hP
      have hD : va_D A (wM o nA_1 nA_2 nA_3 cI 1 1 res.1 res.2.1 res.2.2.1 res.2.2.2.1 true false 0 0 96 0 0 0 0 0 false false false false 0 false res.2.2.2.2 (fun _ => 0) (fun _ => 0)) := hD
      have hP : va_P (dC, dI) vwCl (wM o nA_1 nA_2 nA_3 cI (rR a1) (rC a2) res.1 res.2.1 res.2.2.1 res.2.2.2.1 true false 0 0 96 0 0 0 0 0 false false false false 0 false res.2.2.2.2 (fun _ => 0) (fun _ => 0)) H := by rw [← e1, ← e2]; exact hP
      have hD : va_D A (wM o nA_1 nA_2 nA_3 cI (rR a1) (rC a2) res.1 res.2.1 res.2.2.1 res.2.2.2.1 true false 0 0 96 0 0 0 0 0 false false false false 0 false res.2.2.2.2 (fun _ => 0) (fun _ => 0)) := by rw [← e1, ← e2]; exact hD
      refine W.widen (k := 3) (n := 36868) (by omega) (by omega) ?_
      exact my_retv (fun i => ([nA_1, nA_2, nA_3] : List Nat).getD i 0) hx hb hr hlocks hK hP hD hS dX6_init_99
