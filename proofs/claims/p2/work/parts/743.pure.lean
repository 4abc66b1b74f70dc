/-! Tabs and the next row, both sides. -/
section P3
variable {z n : Nat} {f : Nat → Int32} {sc : Nat → Nat} {k : Nat}
theorem r_begins (hz : 0 < z) (hz2 : z ≤ 5676) (hS : SCR z f sc) (hk : k < z) : f_X6_begins (nI z) f (nI k) = some (bgn z sc k) := by
  unfold f_X6_begins bgn
  have hm' : (k + 1) % z < z := Nat.mod_lt _ hz
  rw [r_isAtt hz2 hS hk, if_neg (cl_in (by omega)), nI_clamp (by omega), (hS k hk).1, nI_1, rndA hz hz2 (by omega)]
  simp only [Option.bind_some, ifb]
  rw [r_isAtt hz2 hS hm']
  simp only [Option.bind_some, ifb]
  by_cases h : prot (sc k) = true
  · rw [if_neg (fun q : nI (sc k) &&& 32 = 0 => by rw [(and32 (hS k hk).2).mp q] at h; cases h), h]
    cases atb sc k <;> cases atb sc ((k + 1) % z) <;> rfl
  · have h' : prot (sc k) = false := by simpa using h
    rw [if_pos ((and32 (hS k hk).2).mpr h'), h']
    cases atb sc k <;> cases atb sc ((k + 1) % z) <;> rfl
theorem r_tab (hz : 0 < z) (hz2 : z ≤ 5676) (hS : SCR z f sc) (hk : k < z) : f_X6_tab (nI z) f (nI k) = some (nI (tabF z sc k)) := by
  unfold f_X6_tab
  have h := scan (fun fu i => f_X6_tab_L2 (nI z) f fu (nI k) (nI i)) (fun i => bgn z sc ((k + i) % z)) z (fun i => nI ((k + i + 1) % z)) 0
    (fun fu => by
      show f_X6_tab_L2 _ _ (fu + 1) _ (nI z) = _
      rw [f_X6_tab_L2.eq_2, if_pos (nI_le (Nat.le_refl _) (by omega))])
    (fun fu i hi => by
      show f_X6_tab_L2 _ _ (fu + 1) (nI k) (nI i) = _
      have hm' : (k + i) % z < z := Nat.mod_lt _ hz
      rw [f_X6_tab_L2.eq_2, if_neg (nI_ge hi (by omega)), nI_add, rndA hz hz2 (by omega)]
      simp only [Option.bind_some]
      rw [r_begins hz hz2 hS hm', nI_1, nI_1, rndA hz hz2 (by omega)]
      simp only [Option.bind_some, ifb])
    FU 0 (Nat.zero_le _) (FU_big (by omega))
  have h : f_X6_tab_L2 (nI z) f FU (nI k) 0 = _ := h
  rw [h]
  unfold tabF
  rw [Nat.sub_zero]
  cases ff (fun i => bgn z sc ((k + i) % z)) 0 z with
  | none => exact congrArg some nI_0.symm
  | some i => rfl
/-- back to the first cell that lies behind such an attribute, itself the last -/
def tabB (z : Nat) (sc : Nat → Nat) (k : Nat) : Nat := match ff (fun i => bgn z sc ((k + 2 * z - i - 2) % z)) 0 z with
  | some i => (k + z - (i + 1)) % z
  | none => 0
theorem modz2 {a z : Nat} : (a + 2 * z) % z = a % z := by
  rw [show a + 2 * z = a + z + z by omega, Nat.add_mod_right, Nat.add_mod_right]
theorem c_previousTabStop (hz : 0 < z) (hn : z ≤ n) (hn2 : n ≤ 5676) (hS : SCR z f sc) (hk : k < z) : f_X3_previousTabStop (nI z) n f (nI k) = some (nI (tabB z sc k)) := by
  unfold f_X3_previousTabStop
  rw [c_before (by omega) hk]
  have h := scan (fun fu i => f_X3_previousTabStop_L8 (nI z) n f fu (nI ((k + z - (i + 1)) % z)) (nI i)) (fun i => bgn z sc ((k + 2 * z - i - 2) % z)) z (fun i => nI ((k + z - (i + 1)) % z)) 0
    (fun fu => by
      show f_X3_previousTabStop_L8 _ _ _ (fu + 1) _ (nI z) = _
      rw [f_X3_previousTabStop_L8.eq_2, if_pos (nI_le (Nat.le_refl _) (by omega))])
    (fun fu i hi => by
      show f_X3_previousTabStop_L8 _ _ _ (fu + 1) (nI ((k + z - (i + 1)) % z)) (nI i) = _
      have hm' : (k + z - (i + 1)) % z < z := Nat.mod_lt _ hz
      have hb : ((k + z - (i + 1)) % z + z - 1) % z < z := Nat.mod_lt _ hz
      have e1 : ((k + z - (i + 1)) % z + z - 1) % z = (k + 2 * z - i - 2) % z := by
        rw [show (k + z - (i + 1)) % z + z - 1 = (k + z - (i + 1)) % z + (z - 1) by omega, Nat.mod_add_mod]
        congr 1
        omega
      rw [f_X3_previousTabStop_L8.eq_2, if_neg (nI_ge hi (by omega)), c_before (by omega) hm', c_isTabStop hz hn hn2 hS hb, ifb, nI_1, e1]
      by_cases q : bgn z sc ((k + 2 * z - i - 2) % z) = true
      · rw [if_pos q, if_pos q]
      · rw [if_neg q, if_neg q]
        by_cases q2 : i + 1 < z
        · rw [show k + 2 * z - i - 2 = (k + z - (i + 1 + 1)) + z by omega, Nat.add_mod_right]
        · cases fu with
          | zero => rw [f_X3_previousTabStop_L8.eq_1, f_X3_previousTabStop_L8.eq_1]
          | succ fu => rw [f_X3_previousTabStop_L8.eq_2, f_X3_previousTabStop_L8.eq_2, if_pos (nI_le (show z ≤ i + 1 by omega) (by omega)), if_pos (nI_le (show z ≤ i + 1 by omega) (by omega))])
    FU 0 (Nat.zero_le _) (FU_big (by omega))
  have h : f_X3_previousTabStop_L8 (nI z) n f FU (nI ((k + z - (0 + 1)) % z)) (nI 0) = _ := h
  rw [nI_0] at h
  rw [show k + z - 1 = k + z - (0 + 1) by omega, h]
  unfold tabB
  rw [Nat.sub_zero]
  cases ff (fun i => bgn z sc ((k + 2 * z - i - 2) % z)) 0 z with
  | none => exact congrArg some nI_0.symm
  | some i => rfl
theorem r_tabBack (hz : 0 < z) (hz2 : z ≤ 5676) (hS : SCR z f sc) (hk : k < z) : f_X6_tabBack (nI z) (nI k) f = some (nI (tabB z sc k)) := by
  unfold f_X6_tabBack
  have h := scan (fun fu i => f_X6_tabBack_L2 (nI z) (nI k) f fu (nI (i + 1))) (fun i => bgn z sc ((k + 2 * z - i - 2) % z)) z (fun i => nI ((k + z - (i + 1)) % z)) 0
    (fun fu => by
      show f_X6_tabBack_L2 _ _ _ (fu + 1) (nI (z + 1)) = _
      rw [f_X6_tabBack_L2.eq_2, if_pos (nI_lt (by omega) (by omega))])
    (fun fu i hi => by
      show f_X6_tabBack_L2 _ _ _ (fu + 1) (nI (i + 1)) = _
      have hm' : (k + 2 * z - i - 2) % z < z := Nat.mod_lt _ hz
      have e1 : f_X6_round (nI z) (nI k - nI (i + 1) - 1) = some (nI ((k + 2 * z - i - 2) % z)) := by
        rw [sub_iI, show (1 : Int32) = iI 1 from rfl, ← Int32.ofInt_sub, rnd hz hz2 _ (by omega) (by omega)]
        have e2 : ((k : Int) - ((i + 1 : Nat) : Int) - 1) % z = ((k + 2 * z - i - 2 : Nat) : Int) % z := by
          rw [show ((k + 2 * z - i - 2 : Nat) : Int) = ((k : Int) - ((i + 1 : Nat) : Int) - 1) + z + z by omega, Int.add_emod_right, Int.add_emod_right]
        rw [e2]
        exact congrArg (fun a => some (nI a)) (Int.toNat_natCast _)
      rw [f_X6_tabBack_L2.eq_2, if_neg (nI_nlt (show i + 1 ≤ z by omega) (by omega)), e1]
      simp only [Option.bind_some]
      rw [r_begins hz hz2 hS hm', rndS hz hz2 (by omega) (by omega), nI_1]
      simp only [Option.bind_some, ifb])
    FU 0 (Nat.zero_le _) (FU_big (by omega))
  have h : f_X6_tabBack_L2 (nI z) (nI k) f FU (nI 1) = _ := h
  have h : f_X6_tabBack_L2 (nI z) (nI k) f FU 1 = _ := h
  rw [h]
  unfold tabB
  rw [Nat.sub_zero]
  cases ff (fun i => bgn z sc ((k + 2 * z - i - 2) % z)) 0 z with
  | none => exact congrArg some nI_0.symm
  | some i => rfl
/-- the first cell from k on, round, that may be typed in -/
def ftt (z : Nat) (sc : Nat → Nat) (k : Nat) : Nat := match ff (fun i => mbt z sc ((k + i) % z)) 0 z with
  | some i => (k + i) % z
  | none => 0
theorem c_firstToTypeIn (hz : 0 < z) (hn : z ≤ n) (hn2 : n ≤ 5676) (hS : SCR z f sc) (hk : k < z) : f_X3_firstToTypeIn (nI z) (nI (cnt sc 0 z)) n f (nI k) = some (nI (ftt z sc k)) := by
  unfold f_X3_firstToTypeIn
  rw [c_startOver hz hn hn2 hS hk]
  simp only [Option.bind_some]
  rw [c_isOpenO hz hn hn2 hS]
  have key : ∀ fu i (b : Bool), i ≤ z → z - i < fu → (i < z → atb sc ((k + i) % z) = false → b = !prot (atOf z sc ((k + i) % z))) →
      f_X3_firstToTypeIn_L15 (nI z) (nI (cnt sc 0 z)) n f fu b (nI ((k + i) % z)) (nI i) = some (nI (match ff (fun i => mbt z sc ((k + i) % z)) i (z - i) with | some i => (k + i) % z | none => 0)) := by
    intro fu
    induction fu with
    | zero => intro i b _ h; omega
    | succ fu ih =>
      intro i b hi hf hb
      rw [f_X3_firstToTypeIn_L15.eq_2]
      by_cases e : i = z
      · subst e
        rw [if_pos (nI_le (Nat.le_refl _) (by omega)), Nat.sub_self]
        exact congrArg some nI_0.symm
      · have hm' : (k + i) % z < z := Nat.mod_lt _ hz
        have ea : (k + (i + 1)) % z = ((k + i) % z + 1) % z := by rw [Nat.mod_add_mod, Nat.add_assoc]
        rw [if_neg (nI_ge (by omega) (by omega)), c_get hn hn2 hS hm', ifA (hS _ hm').2, ifb, c_after (by omega) hm', nI_1, c_isOpen hz hn hn2 hS hm', ← ea]
        obtain ⟨m, hmm⟩ : ∃ m, z - i = m + 1 := ⟨z - i - 1, by omega⟩
        rw [hmm, ff]
        have hnext : ∀ b', b' = !prot (atOf z sc ((k + i) % z)) → f_X3_firstToTypeIn_L15 (nI z) (nI (cnt sc 0 z)) n f fu b' (nI ((k + (i + 1)) % z)) (nI (i + 1)) = some (nI (match ff (fun i => mbt z sc ((k + i) % z)) (i + 1) m with | some i => (k + i) % z | none => 0)) := by
          intro b' hb'
          rw [ih (i + 1) b' (by omega) (by omega) (fun h1 h2 => by
            rw [hb', ea]
            rw [ea] at h2
            unfold atOf
            rw [hm_step hz hm' h2]), show z - (i + 1) = m by omega]
        show (if atb sc ((k + i) % z) = true then _ else _) = _
        by_cases ha : atb sc ((k + i) % z) = true
        · rw [if_pos ha]
          have hmb : mbt z sc ((k + i) % z) = false := by unfold mbt; rw [ha]; rfl
          rw [if_neg (by show ¬ mbt z sc ((k + i) % z) = true; rw [hmb]; decide)]
          refine hnext _ ?_
          have h256 : 256 ≤ sc ((k + i) % z) := by simpa [atb] using ha
          have hh : hm z sc ((k + i) % z) = some ((k + i) % z) := by
            unfold hm
            obtain ⟨m2, rfl⟩ : ∃ m2, z = m2 + 1 := ⟨z - 1, by omega⟩
            have e5 : ((k + i) % (m2 + 1) + (m2 + 1) - 0) % (m2 + 1) = (k + i) % (m2 + 1) := by rw [Nat.sub_zero, Nat.add_mod_right, Nat.mod_mod]
            rw [ff, if_pos (by show atb sc (((k + i) % (m2 + 1) + (m2 + 1) - 0) % (m2 + 1)) = true; rw [e5]; exact ha)]
            exact congrArg some e5
          unfold atOf
          rw [hh]
          have := prot_256 (sc ((k + i) % z) - 256)
          rw [show sc ((k + i) % z) - 256 + 256 = sc ((k + i) % z) by omega] at this
          show (!prot (sc ((k + i) % z))) = !prot (sc ((k + i) % z) - 256)
          rw [this]
        · rw [if_neg ha]
          have ha' : atb sc ((k + i) % z) = false := by simpa using ha
          have hb2 := hb (by omega) ha'
          have hmb : mbt z sc ((k + i) % z) = b := by unfold mbt; rw [ha', hb2]; rfl
          by_cases hbt : b = true
          · rw [if_pos hbt, if_pos (by show mbt z sc ((k + i) % z) = true; rw [hmb]; exact hbt)]
          · rw [if_neg hbt, if_neg (by show ¬ mbt z sc ((k + i) % z) = true; rw [hmb]; exact hbt)]
            exact hnext b hb2
  have h := key FU 0 _ (Nat.zero_le _) (FU_big (by omega)) (fun _ _ => rfl)
  rw [Nat.add_zero, Nat.mod_eq_of_lt hk, nI_0, Nat.sub_zero] at h
  rw [h]
  rfl
end P3
