/-! Clearing the modified mark, and emptying all that may be typed in. -/
def clP (q : Nat → Bool) (sc : Nat → Nat) (i j : Nat) : Nat := if (decide (j < i) && (atb sc j && q (sc j))) = true then sc j - sc j % 2 else sc j
theorem clP_atb {q : Nat → Bool} {sc : Nat → Nat} {i j : Nat} : atb (clP q sc i) j = atb sc j := by
  unfold clP atb
  by_cases h : (decide (j < i) && (decide (256 ≤ sc j) && q (sc j))) = true
  · show decide (256 ≤ (if (decide (j < i) && (decide (256 ≤ sc j) && q (sc j))) = true then sc j - sc j % 2 else sc j)) = _
    rw [if_pos h]
    have h2 : 256 ≤ sc j := by simp at h; exact h.2.1
    rw [decide_eq_true h2, decide_eq_true (by omega)]
  · show decide (256 ≤ (if (decide (j < i) && (decide (256 ≤ sc j) && q (sc j))) = true then sc j - sc j % 2 else sc j)) = _
    rw [if_neg h]
theorem clP_self {q : Nat → Bool} {sc : Nat → Nat} {i : Nat} : clP q sc i i = sc i := by
  unfold clP
  rw [if_neg]
  simp
theorem clP_0 {q : Nat → Bool} {sc : Nat → Nat} : clP q sc 0 = sc := by
  funext j
  unfold clP
  rw [if_neg]
  simp
theorem clP_up {q : Nat → Bool} {sc : Nat → Nat} {i : Nat} (h : (atb sc i && q (sc i)) = true) : upN (clP q sc i) i (sc i - sc i % 2) = clP q sc (i + 1) := by
  funext j
  by_cases e : j = i
  · subst e
    rw [upN_s]
    unfold clP
    rw [h, if_pos (by simp)]
  · rw [upN_n e]
    unfold clP
    have : decide (j < i) = decide (j < i + 1) := by rw [decide_eq_decide]; omega
    rw [this]
theorem clP_no {q : Nat → Bool} {sc : Nat → Nat} {i : Nat} (h : (atb sc i && q (sc i)) = false) : clP q sc (i + 1) = clP q sc i := by
  funext j
  unfold clP
  by_cases e : j = i
  · subst e
    rw [h]
    simp
  · have : decide (j < i) = decide (j < i + 1) := by rw [decide_eq_decide]; omega
    rw [this]
theorem clP_SA {q : Nat → Bool} {z : Nat} {sc : Nat → Nat} {i : Nat} : SA z (clP q sc i) sc := by
  intro j _
  refine ⟨clP_atb, fun _ => ?_⟩
  unfold clP
  by_cases h : (decide (j < i) && (atb sc j && q (sc j))) = true
  · rw [if_pos h]
    unfold prot
    rw [decide_eq_decide]
    omega
  · rw [if_neg h]
theorem clP_cnt {q : Nat → Bool} {sc : Nat → Nat} {i z : Nat} : cnt (clP q sc i) 0 z = cnt sc 0 z := cnt_congr (fun _ _ _ => clP_atb)
theorem SA.trans {z : Nat} {s t u : Nat → Nat} (h1 : SA z s t) (h2 : SA z t u) : SA z s u := fun j hj =>
  ⟨(h1 j hj).1.trans (h2 j hj).1, fun h => ((h1 j hj).2 ((h2 j hj).1.trans h)).trans ((h2 j hj).2 h)⟩
theorem andM2 {a : Nat} (h : a < 512) : nI a &&& (-2) = nI (a - a % 2) := by
  have key : ∀ a, a < 512 → nI a &&& (-2) = nI (a - a % 2) := by decide +kernel
  exact key a h
section P6
variable {z n : Nat} {f : Nat → Int32} {sc : Nat → Nat} {q : Nat → Bool}
theorem c_clearModified (hz : 0 < z) (hn : z ≤ n) (hn2 : n ≤ 5676) {i : Nat} {g : Nat → Int32} (hS : SCR z g (clP q sc i)) (hi : i < z) :
    f_X3_clearModified (nI (cnt sc 0 z)) n g (nI i) = (nI (cnt sc 0 z), if atb sc i = true then upd g i (nI (sc i - sc i % 2)) else g) := by
  have hb : sc i < 512 := by have := (hS i hi).2; rw [clP_self] at this; exact this
  unfold f_X3_clearModified
  rw [c_get hn hn2 hS hi, clP_self, ifA hb]
  show (if atb sc i = true then _ else _) = _
  by_cases h : atb sc i = true
  · rw [if_pos h, if_pos h, andM2 hb]
    have e := c_put (k := i) (v := sc i - sc i % 2) hz hn hn2 hS hi (by omega)
    rw [clP_cnt] at e
    rw [e]
    have ec : cnt (upN (clP q sc i) i (sc i - sc i % 2)) 0 z = cnt sc 0 z := cnt_congr (fun j _ hj => by
      by_cases ej : j = i
      · subst ej
        unfold atb
        rw [upN_s]
        have h2 : 256 ≤ sc j := by simpa [atb] using h
        rw [decide_eq_true h2, decide_eq_true (by omega)]
      · have e1 : atb (upN (clP q sc i) i (sc i - sc i % 2)) j = atb (clP q sc i) j := by unfold atb; rw [upN_n ej]
        rw [e1, clP_atb])
    rw [ec]
    rfl
  · rw [if_neg h, if_neg h]
theorem c_noneModified (hz : 0 < z) (hn : z ≤ n) (hn2 : n ≤ 5676) (hS : SCR z f sc) :
    ∃ g, f_X3_noneModified (nI z) (nI (cnt sc 0 z)) n f = some (nI (cnt sc 0 z), g) ∧ SCR z g (clP (fun _ => true) sc z) := by
  unfold f_X3_noneModified
  have key : ∀ fu i g, i ≤ z → z - i < fu → SCR z g (clP (fun _ => true) sc i) →
      ∃ g', f_X3_noneModified_L2 (nI z) n fu (nI i) (nI (cnt sc 0 z)) g = some (nI (cnt sc 0 z), g') ∧ SCR z g' (clP (fun _ => true) sc z) := by
    intro fu
    induction fu with
    | zero => intro i g _ h; omega
    | succ fu ih =>
      intro i g hi hf hg
      rw [f_X3_noneModified_L2.eq_2]
      by_cases e : i = z
      · subst e
        rw [if_pos (nI_le (Nat.le_refl _) (by omega))]
        exact ⟨g, rfl, hg⟩
      · have hi' : i < z := by omega
        have hb : sc i < 512 := by have := (hg i hi').2; rw [clP_self] at this; exact this
        rw [if_neg (nI_ge (by omega) (by omega)), c_clearModified hz hn hn2 hg hi']
        show ∃ g', f_X3_noneModified_L2 (nI z) n fu (nI i + 1) (nI (cnt sc 0 z)) (if atb sc i = true then upd g i (nI (sc i - sc i % 2)) else g) = _ ∧ _
        rw [nI_1]
        refine ih (i + 1) _ (by omega) (by omega) ?_
        by_cases h : atb sc i = true
        · rw [if_pos h, ← clP_up (q := fun _ => true) (by rw [h]; rfl)]
          exact hg.upd (by omega)
        · rw [if_neg h, clP_no (by have h' : atb sc i = false := by simpa using h
                                   rw [h']; rfl)]
          exact hg
  have h := key FU 0 f (Nat.zero_le _) (FU_big (by omega)) (by rw [clP_0]; exact hS)
  rw [nI_0] at h
  exact h
theorem r_noneModified (hz : 0 < z) (hz2 : z ≤ 5676) (hS : SCR z f sc) (sl : Int32) (st : Nat → Int32) (v1 cu al at_ pl od : Int32) (br sb fr : Bool) :
    ∃ g, f_X6_write_L22 (nI z) sl st FU v1 0 cu al at_ pl od br sb fr f = f_X6_write_L55 (nI z) sl st v1 cu al at_ pl od br sb fr g ∧ SCR z g (clP (fun _ => true) sc z) := by
  have key : ∀ fu i g, i ≤ z → z - i < fu → SCR z g (clP (fun _ => true) sc i) →
      ∃ g', f_X6_write_L22 (nI z) sl st fu v1 (nI i) cu al at_ pl od br sb fr g = f_X6_write_L55 (nI z) sl st v1 cu al at_ pl od br sb fr g' ∧ SCR z g' (clP (fun _ => true) sc z) := by
    intro fu
    induction fu with
    | zero => intro i g _ h; omega
    | succ fu ih =>
      intro i g hi hf hg
      rw [f_X6_write_L22.eq_2]
      by_cases e : i = z
      · subst e
        rw [if_pos (nI_le (Nat.le_refl _) (by omega))]
        exact ⟨g, rfl, hg⟩
      · have hi' : i < z := by omega
        have hb : sc i < 512 := by have := (hg i hi').2; rw [clP_self] at this; exact this
        rw [if_neg (nI_ge (by omega) (by omega)), r_isAtt hz2 hg hi', clP_atb]
        simp only [Option.bind_some, ifb, nI_1]
        rw [if_neg (cl_in (by omega)), nI_clamp (by omega), (hg i hi').1, clP_self, andM2 hb]
        by_cases h : atb sc i = true
        · rw [if_pos h]
          refine ih (i + 1) _ (by omega) (by omega) ?_
          rw [← clP_up (q := fun _ => true) (by rw [h]; rfl)]
          exact hg.upd (by omega)
        · rw [if_neg h]
          refine ih (i + 1) _ (by omega) (by omega) ?_
          rw [clP_no (by have h' : atb sc i = false := by simpa using h
                         rw [h']; rfl)]
          exact hg
  have h := key FU 0 f (Nat.zero_le _) (FU_big (by omega)) (by rw [clP_0]; exact hS)
  rw [nI_0] at h
  exact h
end P6
