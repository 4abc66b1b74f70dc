set_option maxHeartbeats 4000000 in
set_option maxRecDepth 100000 in
/-- Arrays.copyOf(byte[], int) to a greater length -/
theorem c_copyOf (l : Launch) (D : va_G) (tys : List (ClassId × FieldType)) (W0 : va_W) (sz : Nat) (q0 t0 : Nat) {qa n : Nat} {f : Nat → Int32} {cB : ClassId} (ha : W0[q0]? = some (qa, .inl (cB, n, .inl f))) (ht : tys[t0]? = some (cB, .byte)) (hfit : ∀ i, fits .byte (.int (f i)) = true) (N' : Nat) (h1 : n < N') (h2 : N' ≤ 65536) :
    Met l yJ7_copyOf_9075b wsJ7_copyOf_9075b ({ frames := 1, cells := 1, slots := N', locals := 60 }) (va_Pc [.ref qa, .int (nI N')] (my_Pre D tys W0 sz)) (va_Qr (fun (_ : Unit) => True) (fun _ q t => va_P D vwCl (W0 ++ [(q, .inl (cB, N', .inl (va_cpy f (fun _ => 0) 0 0 n)))]) t.heap ∧ va_K D vwCl tys t ∧ va_D (va_A W0 sz) (W0 ++ [(q, .inl (cB, N', .inl (va_cpy f (fun _ => 0) 0 0 n)))])) (va_A W0 sz)) 1 N' (va_A W0 sz) := by
  refine my_enter (y := yJ7_copyOf_9075b) (ws := wsJ7_copyOf_9075b) (av := [.ref qa, .int (nI N')]) (W0 := W0) (sz := sz) (D := D) (tys := tys) (cc := cJ7_copyOf_9075b) (maxL := 3) (ret := some (.array .byte)) (Qc := fun A => va_Qr (fun (_ : Unit) => True) (fun _ q t => va_P D vwCl (W0 ++ [(q, .inl (cB, N', .inl (va_cpy f (fun _ => 0) 0 0 n)))]) t.heap ∧ va_K D vwCl tys t ∧ va_D A (W0 ++ [(q, .inl (cB, N', .inl (va_cpy f (fun _ => 0) 0 0 n)))])) A) (by decide) rfl (Nat.le_of_ble_eq_true rfl) ?_
  intro p e s m below meth c A ls hx hb hr hml hts hown hlocks hnm hP hK hD hA hS hl
  have hown : s.vm.findClass RJ7 = some m.cls := hown
  have hl : lv_has ls 3 [(0, .ref qa), (1, .int (nI N'))] := hl
  have hlen : q0 < W0.length := (List.getElem?_eq_some_iff.mp ha).1
  refine lv_iload_n hx hb dJ7_copyOf_9075b_0 rfl (lv_at hl 1 rfl) ?_
  refine lv_aload_n hx hb dJ7_copyOf_9075b_1 rfl (lv_at hl 0 rfl) ?_
  refine va_alen (v := nI n) hx hb hK hP q0 t0 ha ht rfl dJ7_copyOf_9075b_2 ?_
  refine lv_icmp_ne (tgt := 14) hx hb dJ7_copyOf_9075b_3 (by decide) (fun c1 => ?_) (fun c1 => absurd ((nI_eq (by omega) (by omega)).mp c1) (by omega))
  refine lv_iload_n hx hb dJ7_copyOf_9075b_14 rfl (lv_at hl 1 rfl) ?_
  have z1 : ∀ cA : ClassId, vp_cell cA (N', .inl (fun _ => 0)) = arrV cA N' (fun _ => defaultValue .byte) := fun cA => rfl
  have z2 : ¬ nI N' < 0 := nI_pos (by omega)
  have z3 : (nI N').toNatClampNeg = N' := nI_clamp (by omega)
  have z4 : N' * componentBytes .byte ≤ 536870912 := by
    have : componentBytes .byte = 1 := by decide
    rw [this]
    omega
  have z5 : 0 + 1 ≤ (headSpec wsJ7_copyOf_9075b ({ frames := 1, cells := 1, slots := N', locals := 60 })).room.cells := Nat.le_refl 1
  have z6 : 0 + N' ≤ (headSpec wsJ7_copyOf_9075b ({ frames := 1, cells := 1, slots := N', locals := 60 })).room.slots := by
    rw [Nat.zero_add]
    exact Nat.le_refl N'
  have z7 : (Cond.arrayClass (newarray.typeOf .byte)).before ([.ref qa, .int (nI N')] : List Value).toArray s = true := hts (.arrayClass .byte) (List.mem_of_getElem? (i := 7) rfl)
  refine va_newa (atype := .byte) (ty := .byte) (n := nI N') (N' := N') (a0 := (N', .inl (fun _ => 0))) hx hb z7 rfl hK hP hD hS hA z1 z2 z3 z4 z5 z6 dJ7_copyOf_9075b_15 (fun q cA H hK2 hP hD hS => ?_)
  have hcA : cA = cB := same_arr hK2 tys.length t0 (by simp) (by rw [List.getElem?_append_left (List.getElem?_eq_some_iff.mp ht).1]; exact ht)
  subst hcA
  have ha' : (W0 ++ [(q, .inl (cA, N', .inl (fun _ => 0)))] : va_W)[q0]? = some (qa, .inl (cA, n, .inl f)) := by rw [List.getElem?_append_left hlen]; exact ha
  have hb' : (W0 ++ [(q, .inl (cA, N', .inl (fun _ => 0)))] : va_W)[W0.length]? = some (q, .inl (cA, N', .inl (fun _ => 0))) := by simp
  refine lv_astore_n (lv' := [(2, .ref q), (0, .ref qa), (1, .int (nI N'))]) hx hb dJ7_copyOf_9075b_17 rfl hl (by decide) rfl (fun ls hl => ?_)
  refine lv_aload_n hx hb dJ7_copyOf_9075b_18 rfl (lv_at hl 1 rfl) ?_
  refine lv_iconst (v := 0) hx hb dJ7_copyOf_9075b_19 (by decide) ?_
  refine lv_aload_n hx hb dJ7_copyOf_9075b_20 rfl (lv_at hl 0 rfl) ?_
  refine lv_iconst (v := 0) hx hb dJ7_copyOf_9075b_21 (by decide) ?_
  refine lv_aload_n hx hb dJ7_copyOf_9075b_22 rfl (lv_at hl 1 rfl) ?_
  refine va_alen (v := nI n) hx hb hK hP q0 t0 ha' ht rfl dJ7_copyOf_9075b_23 ?_
  refine lv_iload_n hx hb dJ7_copyOf_9075b_24 rfl (lv_at hl 2 rfl) ?_
  refine va_mmin hx hb (by rw [hml]; exact hl.1.symm) hown (hts (.methodLink RJ7 304 Lib.Math.min.name) (List.mem_of_getElem? (i := 8) rfl)) (hts (.static Lib.Math.min.name) (List.mem_of_getElem? (i := 9) rfl)) (hts (.initialized "java/lang/Math") (List.mem_of_getElem? (i := 10) rfl)) (hts (.code Lib.Math.min.name Lib.Math.min.code 2 (some .int)) (List.mem_of_getElem? (i := 11) rfl)) (Nat.le_of_ble_eq_true rfl) (Nat.le_of_ble_eq_true rfl) (Nat.le_refl _) (by show 0 + N' ≤ N'; omega) dJ7_copyOf_9075b_25 ?_
  rw [if_neg (nI_nlt (by omega) (by omega))]
  refine va_copyi (ty := .byte) hx hb (by rw [hml]; exact hl.1.symm) hown (hts (.methodLink RJ7 150 arraycopyName) (List.mem_of_getElem? (i := 12) rfl)) (hts (.native arraycopyName) (List.mem_of_getElem? (i := 13) rfl)) (hts (.static arraycopyName) (List.mem_of_getElem? (i := 14) rfl)) (hts (.initialized "java/lang/System") (List.mem_of_getElem? (i := 15) rfl)) hK hP hD hS q0 W0.length t0 t0 ha' hb' ht ht rfl (by decide) (by decide) (nI_pos (by omega)) (by rw [nI_clamp (by omega)]; show 0 + n ≤ n; omega) (by rw [nI_clamp (by omega)]; show 0 + n ≤ N'; omega) (fun i _ => hfit _) (Nat.le_of_ble_eq_true rfl) (show 0 + (nativeFrameWords "java/lang/System" "arraycopy" 5 + 11) ≤ 60 from by decide +kernel) dJ7_copyOf_9075b_28 (fun H locs hP hD hS => ?_)
  rw [nI_clamp (by omega)] at hP hD
  have hset : (W0 ++ [(q, .inl (cA, N', .inl (fun _ => 0)))] : va_W).set W0.length (q, .inl (cA, N', .inl (va_cpy f (fun _ => 0) (0 : Int32).toNatClampNeg (0 : Int32).toNatClampNeg n))) = W0 ++ [(q, .inl (cA, N', .inl (va_cpy f (fun _ => 0) 0 0 n)))] := by
    rw [List.set_append_right _ _ (Nat.le_refl _), Nat.sub_self]
    rfl
  rw [hset] at hP hD
  refine lv_aload_n hx hb dJ7_copyOf_9075b_31 rfl (lv_at hl 0 rfl) ?_
  refine W.widen (k := 1) (n := N') (Nat.le_refl _) (by omega) ?_
  exact W.aret (v := .ref q) hx hb hr (Or.inr ⟨_, rfl⟩) (Or.inr ⟨_, rfl⟩) (fun t ht hW => ⟨⟨(), q, rfl, trivial, by rw [ht]; exact hP, va_K.moved hW.alike hK, hD⟩, hS.F ht⟩) hS.2.2 dJ7_copyOf_9075b_32 hlocks
