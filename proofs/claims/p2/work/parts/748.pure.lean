/-! Emptying all that may be typed in: the reference. -/
def prd : Nat → Int32
  | 0 => -1
  | i + 1 => nI i
theorem nI_prd (i : Nat) : nI i + (-1) = prd i := by
  cases i with
  | zero => rw [nI_0]; decide
  | succ i =>
    show nI (i + 1) + (-1) = nI i
    rw [← nI_1, Int32.add_assoc]
    show nI i + (1 + -1) = nI i
    rw [show ((1 : Int32) + -1) = 0 by decide, Int32.add_zero]
theorem nI_prd' (i : Nat) : nI i - 1 = prd i := by rw [← nI_prd, Int32.sub_eq_add_neg]
section P8
variable {z n : Nat} {f : Nat → Int32} {sc : Nat → Nat}
theorem ftt_ff (hz : 0 < z) : ftt z sc 0 = match ff (mbt z sc) 0 z with | some i => i | none => 0 := by
  unfold ftt
  rw [ff_congr (q := mbt z sc) (fun j _ hj => by rw [Nat.zero_add, Nat.mod_eq_of_lt (by omega)])]
  cases e : ff (mbt z sc) 0 z with
  | none => rfl
  | some i =>
    have := ff_some e
    show (0 + i) % z = i
    rw [Nat.zero_add, Nat.mod_eq_of_lt (by omega)]
theorem r_eraseInput38 (hz : 0 < z) (hz2 : z ≤ 5676) {sd : Nat → Nat} (hS : SCR z f sd) (v1 : Int32) (cu wl : Int32) :
    ∃ g, f_X6_eraseInput_L38 (nI z) FU v1 0 cu wl f = some (if v1 = -1 then 0 else v1, 0, g) ∧ SCR z g (clP opn sd z) := by
  have key : ∀ fu i g, i ≤ z → z - i < fu → SCR z g (clP opn sd i) →
      ∃ g', f_X6_eraseInput_L38 (nI z) fu v1 (nI i) cu wl g = some (if v1 = -1 then 0 else v1, 0, g') ∧ SCR z g' (clP opn sd z) := by
    intro fu
    induction fu with
    | zero => intro i g _ h; omega
    | succ fu ih =>
      intro i g hi hf hg
      rw [f_X6_eraseInput_L38.eq_2]
      by_cases e : i = z
      · rw [e] at hg
        rw [e, if_pos (nI_le (Nat.le_refl _) (by omega))]
        refine ⟨g, ?_, hg⟩
        by_cases h : v1 = -1
        · rw [if_pos h, if_pos h]
        · rw [if_neg h, if_neg h]
      · have hi' : i < z := by omega
        have hb : sd i < 512 := by have := (hg i hi').2; rw [clP_self] at this; exact this
        rw [if_neg (nI_ge (by omega) (by omega)), r_isAtt hz2 hg hi', clP_atb]
        simp only [Option.bind_some, ifb, nI_1]
        rw [if_neg (cl_in (by omega)), nI_clamp (by omega), (hg i hi').1, clP_self, andM2 hb]
        by_cases h : atb sd i = true
        · rw [if_pos h]
          by_cases h2 : prot (sd i) = false
          · rw [if_pos ((and32 hb).mpr h2)]
            refine ih (i + 1) _ (by omega) (by omega) ?_
            rw [← clP_up (q := opn) (by rw [h]; show (true && !prot (sd i)) = true; rw [h2]; rfl)]
            exact hg.upd (by omega)
          · rw [if_neg (fun q => h2 ((and32 hb).mp q))]
            refine ih (i + 1) _ (by omega) (by omega) ?_
            rw [clP_no (by show (atb sd i && !prot (sd i)) = false
                           have h3 : prot (sd i) = true := by simpa using h2
                           rw [h3, h]; rfl)]
            exact hg
        · rw [if_neg h]
          refine ih (i + 1) _ (by omega) (by omega) ?_
          rw [clP_no (by have h' : atb sd i = false := by simpa using h
                         rw [h']; rfl)]
          exact hg
  have h := key FU 0 f (Nat.zero_le _) (FU_big (by omega)) (by rw [clP_0]; exact hS)
  rw [nI_0] at h
  exact h
theorem r_eraseInput (hz : 0 < z) (hz2 : z ≤ 5676) (hS : SCR z f sc) (cu wl : Int32) :
    ∃ g, f_X6_eraseInput (nI z) cu wl f = some (nI (ftt z sc 0), 0, g) ∧ SCR z g (clP opn (dnP z sc 0) z) := by
  unfold f_X6_eraseInput
  have key : ∀ fu i g, i ≤ z → i < fu → SCR z g (dnP z sc i) →
      ∃ g', f_X6_eraseInput_L9 (nI z) fu (oI (ff (mbt z sc) i (z - i))) (prd i) cu wl g = some (nI (ftt z sc 0), 0, g') ∧ SCR z g' (clP opn (dnP z sc 0) z) := by
    intro fu
    induction fu with
    | zero => intro i g _ h; omega
    | succ fu ih =>
      intro i g hi hf hg
      rw [f_X6_eraseInput_L9.eq_2]
      cases i with
      | zero =>
        rw [if_pos (by show (-1 : Int32) < 0; decide)]
        obtain ⟨g', h1, h2⟩ := r_eraseInput38 hz hz2 hg (oI (ff (mbt z sc) 0 (z - 0))) cu wl
        refine ⟨g', ?_, h2⟩
        rw [h1, ftt_ff hz, Nat.sub_zero]
        cases e : ff (mbt z sc) 0 z with
        | none =>
          rw [if_pos (show oI none = -1 from rfl)]
          show some ((0 : Int32), (0 : Int32), g') = some (nI 0, 0, g')
          rw [nI_0]
        | some k =>
          have hk := ff_some e
          rw [if_neg (fun q => by have := (oI_m1 (o := some k) (fun k q => by cases q; omega)).mp q; cases this)]
          rfl
      | succ i =>
        have hi' : i < z := by omega
        show ∃ g', (if nI i < 0 then _ else _) = _ ∧ _
        rw [if_neg (fun q => cl_in (k := i) (by omega) (Or.inl q))]
        show ∃ g', (Option.bind (f_X6_mayBeTyped (nI z) g (nI i)) _) = _ ∧ _
        rw [r_mayBeTyped hz hz2 hg hi', mbt_SA hz dnP_SA hi']
        simp only [Option.bind_some, ifb]
        show ∃ g', (if mbt z sc i = true then (if nI i < 0 ∨ 5676 ≤ (nI i).toNatClampNeg then none else f_X6_eraseInput_L9 (nI z) fu (nI i) (nI i + (-1)) cu wl (upd g (nI i).toNatClampNeg 0)) else f_X6_eraseInput_L9 (nI z) fu (oI (ff (mbt z sc) (i + 1) (z - (i + 1)))) (nI i + (-1)) cu wl g) = _ ∧ _
        rw [if_neg (cl_in (by omega)), nI_clamp (by omega), nI_prd]
        obtain ⟨m, hm⟩ : ∃ m, z - i = m + 1 := ⟨z - i - 1, by omega⟩
        have hff : ff (mbt z sc) i (z - i) = if mbt z sc i = true then some i else ff (mbt z sc) (i + 1) (z - (i + 1)) := by
          rw [hm, ff, show z - (i + 1) = m by omega]
        by_cases h : mbt z sc i = true
        · rw [if_pos h]
          rw [if_pos h] at hff
          have hg2 := hg.upd (k := i) (v := 0) (by omega)
          rw [nI_0, dnP_up h] at hg2
          have := ih i _ (by omega) (by omega) hg2
          rw [hff] at this
          exact this
        · rw [if_neg h]
          rw [if_neg h] at hff
          rw [← hff]
          rw [dnP_no (by simpa using h)] at hg
          exact ih i _ (by omega) (by omega) hg
  have h := key FU z f (Nat.le_refl _) (FU_big (by omega)) (hS.congr (fun j hj => (dnP_z hj).symm))
  rw [Nat.sub_self, ← nI_prd'] at h
  exact h
end P8
