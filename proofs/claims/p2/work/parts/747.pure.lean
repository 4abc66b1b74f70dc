/-! Emptying all that may be typed in: the whole of it, both sides. -/
def dnP (z : Nat) (sc : Nat → Nat) (i j : Nat) : Nat := if (decide (i ≤ j) && mbt z sc j) = true then 0 else sc j
abbrev opn (a : Nat) : Bool := !prot a
section P7
variable {z n : Nat} {f : Nat → Int32} {sc : Nat → Nat}
theorem dnP_SA {i : Nat} : SA z (dnP z sc i) sc := by
  intro j _
  unfold dnP
  by_cases h : (decide (i ≤ j) && mbt z sc j) = true
  · have h2 : mbt z sc j = true := by simp at h; exact h.2
    have h3 := mbt_atb h2
    refine ⟨?_, fun q => by rw [h3] at q; cases q⟩
    rw [h3]
    show decide (256 ≤ (if (decide (i ≤ j) && mbt z sc j) = true then 0 else sc j)) = false
    rw [if_pos h]
    decide
  · refine ⟨?_, fun _ => by rw [if_neg h]⟩
    show decide (256 ≤ (if (decide (i ≤ j) && mbt z sc j) = true then 0 else sc j)) = atb sc j
    rw [if_neg h]
    rfl
theorem dnP_z {j : Nat} (hj : j < z) : dnP z sc z j = sc j := by
  unfold dnP
  rw [if_neg]
  simp
  intro h
  omega
theorem dnP_up {i : Nat} (h : mbt z sc i = true) : upN (dnP z sc (i + 1)) i 0 = dnP z sc i := by
  funext j
  by_cases e : j = i
  · subst e
    rw [upN_s]
    unfold dnP
    rw [h, if_pos (by simp)]
  · rw [upN_n e]
    unfold dnP
    have : decide (i + 1 ≤ j) = decide (i ≤ j) := by rw [decide_eq_decide]; omega
    rw [this]
theorem dnP_no {i : Nat} (h : mbt z sc i = false) : dnP z sc (i + 1) = dnP z sc i := by
  funext j
  unfold dnP
  by_cases e : j = i
  · subst e
    rw [h]
    simp
  · have : decide (i + 1 ≤ j) = decide (i ≤ j) := by rw [decide_eq_decide]; omega
    rw [this]
theorem eoN_at : ∀ (m i : Nat) (s : Nat → Nat) (j : Nat), i + m ≤ z → itr (fun i s => if mbt z sc ((0 + i) % z) = true then upN s ((0 + i) % z) 0 else s) i m s j = if (decide (i ≤ j) && (decide (j < i + m) && mbt z sc j)) = true then 0 else s j := by
  intro m
  induction m with
  | zero =>
    intro i s j _
    rw [if_neg]
    · rfl
    · simp
      omega
  | succ m ih =>
    intro i s j h
    show itr _ (i + 1) m (if mbt z sc ((0 + i) % z) = true then upN s ((0 + i) % z) 0 else s) j = _
    rw [ih (i + 1) _ j (by omega), Nat.zero_add, Nat.mod_eq_of_lt (by omega)]
    by_cases e : j = i
    · subst e
      rw [if_neg (by simp; omega)]
      by_cases q : mbt z sc j = true
      · rw [if_pos q, if_pos (by simp [q]), upN_s]
      · rw [if_neg q, if_neg (by simp [q])]
    · have e1 : decide (i + 1 ≤ j) = decide (i ≤ j) := by rw [decide_eq_decide]; omega
      have e2 : decide (j < i + 1 + m) = decide (j < i + (m + 1)) := by rw [decide_eq_decide]; omega
      rw [e1, e2]
      by_cases q : mbt z sc i = true
      · rw [if_pos q, upN_n e]
      · rw [if_neg q]
theorem SCR.congr {g : Nat → Int32} {s t : Nat → Nat} (h : SCR z g s) (e : ∀ j, j < z → s j = t j) : SCR z g t := fun j hj => by
  rw [← e j hj]; exact h j hj
theorem eo_dn {j : Nat} (hj : j < z) : eoN z sc 0 z j = dnP z sc 0 j := by
  unfold eoN dnP
  rw [eoN_at z 0 sc j (by omega)]
  have e1 : decide (j < 0 + z) = true := by simpa using hj
  rw [e1]
  rfl
theorem c_startsOpenField (hz : 0 < z) (hn : z ≤ n) (hn2 : n ≤ 5676) (hS : SCR z f sc) {k : Nat} (hk : k < z) : f_X3_startsOpenField n f (nI k) = (atb sc k && opn (sc k)) := by
  unfold f_X3_startsOpenField
  rw [c_get hn hn2 hS hk, ifA (hS k hk).2, ifb, c_isOpen hz hn hn2 hS hk]
  show (if atb sc k = true then _ else _) = _
  cases h : atb sc k
  · rfl
  · show (if (!prot (sc k)) = true then true else false) = (true && !prot (sc k))
    cases prot (sc k) <;> rfl
theorem clP_z {q : Nat → Bool} {s t : Nat → Nat} (h : ∀ j, j < z → s j = t j) : ∀ j, j < z → clP q s z j = clP q t z j := by
  intro j hj
  unfold clP atb
  rw [h j hj]
theorem mbt_congr {s t : Nat → Nat} (hz : 0 < z) (h : ∀ j, j < z → s j = t j) {k : Nat} (hk : k < z) : mbt z s k = mbt z t k :=
  mbt_SA hz (fun j hj => ⟨by unfold atb; rw [h j hj], fun _ => by rw [h j hj]⟩) hk
theorem ftt_SA {s t : Nat → Nat} (hz : 0 < z) (h : SA z s t) (k : Nat) : ftt z s k = ftt z t k := by
  unfold ftt
  rw [ff_congr (fun j _ _ => mbt_SA hz h (Nat.mod_lt (k + j) hz))]
theorem c_eraseInput (hz : 0 < z) (hn : z ≤ n) (hn2 : n ≤ 5676) (hS : SCR z f sc) (cu : Int32) :
    ∃ g, f_X3_eraseWhatIsNotProtected (nI z) (nI (cnt sc 0 z)) cu n f = some (nI (cnt sc 0 z), nI (ftt z sc 0), g) ∧ SCR z g (clP opn (dnP z sc 0) z) := by
  unfold f_X3_eraseWhatIsNotProtected
  have e0 := c_emptyOpenCells (k := 0) (m := z) hz hn hn2 hS hz (by omega)
  rw [nI_0] at e0
  rw [e0]
  simp only [Option.bind_some]
  have hS1 : SCR z (eoF z sc 0 z f) (dnP z sc 0) := (eo_SCR hS).congr (fun j hj => eo_dn hj)
  have hc : cnt sc 0 z = cnt (dnP z sc 0) 0 z := (cnt_congr (fun j _ hj => (dnP_SA j (by omega)).1)).symm
  have key : ∀ fu i g, i ≤ z → z - i < fu → SCR z g (clP opn (dnP z sc 0) i) →
      ∃ g', f_X3_eraseWhatIsNotProtected_L11 (nI z) n fu (nI i) (nI (cnt (dnP z sc 0) 0 z)) cu g = some (nI (cnt (dnP z sc 0) 0 z), nI (ftt z sc 0), g') ∧ SCR z g' (clP opn (dnP z sc 0) z) := by
    intro fu
    induction fu with
    | zero => intro i g _ h; omega
    | succ fu ih =>
      intro i g hi hf hg
      rw [f_X3_eraseWhatIsNotProtected_L11.eq_2]
      by_cases e : i = z
      · rw [e] at hg
        rw [e, if_pos (nI_le (Nat.le_refl _) (by omega))]
        have e1 := c_firstToTypeIn (k := 0) hz hn hn2 hg hz
        rw [clP_cnt, nI_0, ftt_SA hz (clP_SA.trans dnP_SA)] at e1
        rw [e1]
        exact ⟨g, rfl, hg⟩
      · have hi' : i < z := by omega
        have hb : dnP z sc 0 i < 512 := by have := (hg i hi').2; rw [clP_self] at this; exact this
        rw [if_neg (nI_ge (by omega) (by omega)), ifb, c_startsOpenField hz hn hn2 hg hi', clP_atb, clP_self, c_clearModified hz hn hn2 hg hi', nI_1]
        by_cases h : (atb (dnP z sc 0) i && opn (dnP z sc 0 i)) = true
        · rw [if_pos h]
          show ∃ g', f_X3_eraseWhatIsNotProtected_L11 (nI z) n fu (nI (i + 1)) (nI (cnt (dnP z sc 0) 0 z)) cu (if atb (dnP z sc 0) i = true then upd g i (nI (dnP z sc 0 i - dnP z sc 0 i % 2)) else g) = _ ∧ _
          have ha : atb (dnP z sc 0) i = true := by simp at h; exact h.1
          rw [if_pos ha]
          refine ih (i + 1) _ (by omega) (by omega) ?_
          rw [← clP_up h]
          exact hg.upd (by omega)
        · rw [if_neg h]
          refine ih (i + 1) _ (by omega) (by omega) ?_
          rw [clP_no (by simpa using h)]
          exact hg
  have h := key FU 0 (eoF z sc 0 z f) (Nat.zero_le _) (FU_big (by omega)) (by rw [clP_0]; exact hS1)
  rw [nI_0, ← hc] at h
  exact h
end P7
