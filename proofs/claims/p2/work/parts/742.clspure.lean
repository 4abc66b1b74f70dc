/-! The class's Screen over z cells of n, in naturals; and what both sides share. -/
theorem ifA {α : Type} {v : Nat} (hv : v < 512) (X Y : α) : (if nI v < 256 then X else Y) = if decide (256 ≤ v) = true then Y else X := by
  by_cases h : 256 ≤ v
  · rw [if_neg (show ¬ nI v < (256 : Int32) from nI_nlt (b := 256) h (by omega)), if_pos (by simpa using h)]
  · rw [if_pos (show nI v < (256 : Int32) from nI_lt (b := 256) (by omega) (by omega)), if_neg (by simpa using h)]
theorem ifA' {α : Type} {v : Nat} (hv : v < 512) (X Y : α) : (if (256 : Int32) ≤ nI v then X else Y) = if decide (256 ≤ v) = true then X else Y := by
  by_cases h : 256 ≤ v
  · rw [if_pos (show (256 : Int32) ≤ nI v from nI_le (a := 256) h (by omega)), if_pos (by simpa using h)]
  · rw [if_neg (show ¬ (256 : Int32) ≤ nI v from nI_ge (b := 256) (by omega) (by omega)), if_neg (by simpa using h)]
theorem bk {a z : Nat} (hz : 0 < z) (ha : 0 < a) : (a % z + z - 1) % z = (a - 1) % z := by
  rw [show a % z + z - 1 = a % z + (z - 1) by omega, Nat.mod_add_mod, show a + (z - 1) = (a - 1) + z by omega, Nat.add_mod_right]
theorem ff_shift {p q : Nat → Bool} (h : ∀ i, q (i + 1) = p i) : ∀ m i, ff q (i + 1) m = (ff p i m).map (· + 1) := by
  intro m
  induction m with
  | zero => intro i; rfl
  | succ m ih =>
    intro i
    unfold ff
    rw [h i, ih (i + 1)]
    by_cases e : p i = true
    · rw [if_pos e, if_pos e]; rfl
    · rw [if_neg e, if_neg e]
theorem ff_last {p : Nat → Bool} : ∀ m i, p (i + m) = false → ff p i (m + 1) = ff p i m := by
  intro m
  induction m with
  | zero => intro i h; unfold ff; rw [Nat.add_zero] at h; rw [if_neg (by rw [h]; decide)]; rfl
  | succ m ih =>
    intro i h
    rw [ff]
    conv => rhs; rw [ff]
    rw [ih (i + 1) (by rw [show i + 1 + m = i + (m + 1) by omega]; exact h)]
theorem hm_none {z : Nat} {sc : Nat → Nat} {k : Nat} (hz : 0 < z) (hk : k < z) : hm z sc k = none ↔ cnt sc 0 z = 0 := by
  rw [cnt_0]
  unfold hm
  constructor
  · intro h j _ hj
    have hj : j < z := by omega
    have h1 : ff (fun i => atb sc ((k + z - i) % z)) 0 z = none := by
      cases e : ff (fun i => atb sc ((k + z - i) % z)) 0 z with
      | none => rfl
      | some i => rw [e] at h; cases h
    have h2 := ff_none h1 ((k + z - j) % z) (Nat.zero_le _) (by rw [Nat.zero_add]; exact Nat.mod_lt _ hz)
    have e : (k + z - (k + z - j) % z) % z = j := by
      by_cases q : j ≤ k
      · rw [show k + z - j = (k - j) + z by omega, Nat.add_mod_right, Nat.mod_eq_of_lt (show k - j < z by omega), show k + z - (k - j) = j + z by omega, Nat.add_mod_right, Nat.mod_eq_of_lt hj]
      · rw [Nat.mod_eq_of_lt (show k + z - j < z by omega), show k + z - (k + z - j) = j by omega, Nat.mod_eq_of_lt hj]
    simp only [e] at h2
    exact h2
  · intro h
    cases e : ff (fun i => atb sc ((k + z - i) % z)) 0 z with
    | none => rfl
    | some i =>
      have := (ff_some e).2.2.1
      rw [h ((k + z - i) % z) (Nat.zero_le _) (by rw [Nat.zero_add]; exact Nat.mod_lt _ hz)] at this
      cases this
/-- a cell that is no attribute is of the field of the cell ahead of it -/
theorem hm_step {z : Nat} {sc : Nat → Nat} {k : Nat} (hz : 0 < z) (hk : k < z) (ha : atb sc ((k + 1) % z) = false) : hm z sc ((k + 1) % z) = hm z sc k := by
  obtain ⟨m, rfl⟩ : ∃ m, z = m + 1 := ⟨z - 1, by omega⟩
  unfold hm
  have hk1 : (k + 1) % (m + 1) < m + 1 := Nat.mod_lt _ hz
  have cell : ∀ i, i < m → ((k + 1) % (m + 1) + (m + 1) - (i + 1)) % (m + 1) = (k + (m + 1) - i) % (m + 1) := by
    intro i hi
    by_cases q : k + 1 < m + 1
    · rw [Nat.mod_eq_of_lt q, show k + 1 + (m + 1) - (i + 1) = k + (m + 1) - i by omega]
    · rw [show k + 1 = m + 1 by omega, Nat.mod_self, show k + (m + 1) - i = (0 + (m + 1) - (i + 1)) + (m + 1) by omega, Nat.add_mod_right]
  have e1 : ff (fun i => atb sc (((k + 1) % (m + 1) + (m + 1) - i) % (m + 1))) 0 (m + 1) = (ff (fun i => atb sc ((k + (m + 1) - i) % (m + 1))) 0 m).map (· + 1) := by
    rw [ff, if_neg (by
      rw [Nat.sub_zero, Nat.add_mod_right, Nat.mod_mod, ha]
      decide)]
    have e2 := ff_congr (p := fun i => atb sc (((k + 1) % (m + 1) + (m + 1) - i) % (m + 1))) (q := fun i => atb sc ((k + (m + 1) - (i - 1)) % (m + 1))) (m := m) (i := 0 + 1) (fun j h1 h2 => by
      obtain ⟨i, rfl⟩ : ∃ i, j = i + 1 := ⟨j - 1, by omega⟩
      show atb sc (((k + 1) % (m + 1) + (m + 1) - (i + 1)) % (m + 1)) = atb sc ((k + (m + 1) - (i + 1 - 1)) % (m + 1))
      rw [cell i (by omega), Nat.add_sub_cancel])
    rw [e2]
    exact ff_shift (p := fun i => atb sc ((k + (m + 1) - i) % (m + 1))) (q := fun i => atb sc ((k + (m + 1) - (i - 1)) % (m + 1))) (fun i => by show atb sc ((k + (m + 1) - (i + 1 - 1)) % (m + 1)) = _; rw [Nat.add_sub_cancel]) m 0
  have e3 : ff (fun i => atb sc ((k + (m + 1) - i) % (m + 1))) 0 (m + 1) = ff (fun i => atb sc ((k + (m + 1) - i) % (m + 1))) 0 m := by
    refine ff_last m 0 ?_
    show atb sc ((k + (m + 1) - (0 + m)) % (m + 1)) = false
    rw [show k + (m + 1) - (0 + m) = k + 1 by omega]
    exact ha
  rw [e1, e3]
  cases e4 : ff (fun i => atb sc ((k + (m + 1) - i) % (m + 1))) 0 m with
  | none => rfl
  | some i =>
    have := (ff_some e4).2.1
    simp only [Option.map_some]
    rw [cell i (by omega)]
section CP
variable {z n : Nat} {f : Nat → Int32} {sc : Nat → Nat} {k : Nat}
theorem c_get (hn : z ≤ n) (hn2 : n ≤ 5676) (hS : SCR z f sc) (hk : k < z) : f_X3_get n f (nI k) = nI (sc k) := by
  unfold f_X3_get
  rw [if_neg (nI_pos (by omega)), if_pos (nI_lt (by omega) (by omega)), nI_clamp (by omega), (hS k hk).1]
theorem c_after (hz2 : z ≤ 5676) (hk : k < z) : f_X3_after (nI z) (nI k) = nI ((k + 1) % z) := by
  unfold f_X3_after
  rw [nI_1]
  by_cases h : k + 1 < z
  · rw [if_pos (nI_lt h (by omega)), Nat.mod_eq_of_lt h]
  · rw [if_neg (nI_nlt (by omega) (by omega)), show k + 1 = z by omega, Nat.mod_self]
    exact nI_0.symm
theorem c_before (hz2 : z ≤ 5676) (hk : k < z) : f_X3_before (nI z) (nI k) = nI ((k + z - 1) % z) := by
  unfold f_X3_before
  by_cases h : 0 < k
  · rw [if_pos (show (0 : Int32) < nI k from nI_lt (a := 0) h (by omega)), show k + z - 1 = (k - 1) + z by omega, Nat.add_mod_right, Nat.mod_eq_of_lt (by omega)]
    exact pk_sub (b := 1) h
  · rw [if_neg (show ¬ (0 : Int32) < nI k from nI_nlt (a := 0) (b := k) (by omega) (by omega)), show k + z - 1 = z - 1 by omega, Nat.mod_eq_of_lt (by omega)]
    exact pk_sub (b := 1) (by omega)
theorem c_startOver (hz : 0 < z) (hn : z ≤ n) (hn2 : n ≤ 5676) (hS : SCR z f sc) (hk : k < z) : f_X3_startOver (nI z) (nI (cnt sc 0 z)) n f (nI k) = some (oI (hm z sc k)) := by
  unfold f_X3_startOver
  have hc := cnt_le sc z 0
  by_cases h0 : cnt sc 0 z = 0
  · rw [if_pos (show nI (cnt sc 0 z) = 0 by rw [h0]; rfl), (hm_none hz hk).mpr h0]
    rfl
  · rw [if_neg (nI_ne0 (by omega) (by omega))]
    have h := scan (fun fu i => f_X3_startOver_L13 (nI z) (nI (cnt sc 0 z)) n f fu (nI ((k + z - i) % z)) (nI i)) (fun i => atb sc ((k + z - i) % z)) z (fun i => nI ((k + z - i) % z)) (-1)
      (fun fu => by
        show f_X3_startOver_L13 _ _ _ _ (fu + 1) _ (nI z) = _
        rw [f_X3_startOver_L13.eq_2, if_pos (nI_le (Nat.le_refl _) (by omega))])
      (fun fu i hi => by
        show f_X3_startOver_L13 _ _ _ _ (fu + 1) (nI ((k + z - i) % z)) (nI i) = _
        have hm' : (k + z - i) % z < z := Nat.mod_lt _ hz
        rw [f_X3_startOver_L13.eq_2, if_neg (nI_ge hi (by omega)), c_get hn hn2 hS hm', ifA (hS _ hm').2, c_before (by omega) hm', bk hz (by omega), nI_1, show k + z - i - 1 = k + z - (i + 1) by omega]
        rfl)
      FU 0 (Nat.zero_le _) (FU_big (by omega))
    have h : f_X3_startOver_L13 (nI z) (nI (cnt sc 0 z)) n f FU (nI ((k + z - 0) % z)) (nI 0) = _ := h
    rw [Nat.sub_zero, Nat.add_mod_right, Nat.mod_eq_of_lt hk, nI_0] at h
    rw [h]
    congr 1
    unfold hm oI
    rw [Nat.sub_zero]
    cases ff (fun i => atb sc ((k + z - i) % z)) 0 z <;> rfl
theorem prot_256 (a : Nat) : prot (a + 256) = prot a := by
  unfold prot
  rw [show (a + 256) / 32 % 2 = a / 32 % 2 by omega]
theorem prot_0 : prot 0 = false := by decide
theorem c_isOpen (hz : 0 < z) (hn : z ≤ n) (hn2 : n ≤ 5676) (hS : SCR z f sc) (hk : k < z) : f_X3_isOpen n f (nI k) = !prot (sc k) := by
  unfold f_X3_isOpen
  rw [if_neg (fun q => by have := (oI_m1 (o := some k) (fun k q => by cases q; omega)).mp q; cases this), c_get hn hn2 hS hk]
  by_cases h : prot (sc k) = true
  · rw [if_neg (fun q => by rw [(and32 (hS k hk).2).mp q] at h; cases h), h]; rfl
  · have h' : prot (sc k) = false := by simpa using h
    rw [if_pos ((and32 (hS k hk).2).mpr h'), h']; rfl
theorem c_isOpenO (hz : 0 < z) (hn : z ≤ n) (hn2 : n ≤ 5676) (hS : SCR z f sc) : f_X3_isOpen n f (oI (hm z sc k)) = !prot (atOf z sc k) := by
  unfold atOf
  cases e : hm z sc k with
  | none => unfold f_X3_isOpen; rw [if_pos (show oI none = -1 from rfl)]; show true = !prot 0; rw [prot_0]; rfl
  | some h =>
    obtain ⟨h1, h2⟩ := hm_lt hz e
    show f_X3_isOpen n f (nI h) = !prot (sc h - 256)
    rw [c_isOpen hz hn hn2 hS h1]
    have := prot_256 (sc h - 256)
    rw [show sc h - 256 + 256 = sc h by omega] at this
    rw [this]
theorem c_attributeOver (hz : 0 < z) (hn : z ≤ n) (hn2 : n ≤ 5676) (hS : SCR z f sc) (hk : k < z) : f_X3_attributeOver (nI z) (nI (cnt sc 0 z)) n f (nI k) = some (if hm z sc k = none then -1 else nI (atOf z sc k)) := by
  unfold f_X3_attributeOver
  rw [c_startOver hz hn hn2 hS hk]
  simp only [Option.bind_some]
  unfold atOf
  cases e : hm z sc k with
  | none => rfl
  | some h =>
    obtain ⟨h1, h2⟩ := hm_lt hz e
    rw [if_neg (fun q => by have := (oI_m1 (o := some h) (fun k q => by cases q; omega)).mp q; cases this), if_neg (fun q => by cases q)]
    show some (f_X3_get n f (nI h) - 256) = _
    rw [c_get hn hn2 hS h1]
    exact congrArg some (pk_sub (b := 256) h2)
theorem c_mayBeTypedIn (hz : 0 < z) (hn : z ≤ n) (hn2 : n ≤ 5676) (hS : SCR z f sc) (hk : k < z) : f_X3_mayBeTypedIn (nI z) (nI (cnt sc 0 z)) n f (nI k) = some (mbt z sc k) := by
  unfold f_X3_mayBeTypedIn mbt
  rw [c_get hn hn2 hS hk, ifA' (hS k hk).2, c_startOver hz hn hn2 hS hk]
  simp only [Option.bind_some, ifb]
  rw [c_isOpenO hz hn hn2 hS]
  show (if atb sc k = true then _ else _) = _
  cases atb sc k <;> cases prot (atOf z sc k) <;> rfl
theorem c_toEnd (hz : 0 < z) (hn : z ≤ n) (hn2 : n ≤ 5676) (hS : SCR z f sc) (hk : k < z) : f_X3_cellsToFieldEnd (nI z) (nI (cnt sc 0 z)) n f (nI k) = some (nI (toE z sc k)) := by
  unfold f_X3_cellsToFieldEnd
  have hc := cnt_le sc z 0
  by_cases h0 : cnt sc 0 z = 0
  · rw [if_pos (show nI (cnt sc 0 z) = 0 by rw [h0]; rfl)]
    unfold toE
    rw [(nxt_none hz hk).mpr h0]
    exact congrArg some (pk_sub (by omega))
  · rw [if_neg (nI_ne0 (by omega) (by omega))]
    have h := scan (fun fu i => f_X3_cellsToFieldEnd_L18 (nI z) (nI (cnt sc 0 z)) n f fu (nI ((k + i) % z)) (nI i)) (fun i => atb sc ((k + i) % z)) z (fun i => nI i) (nI z)
      (fun fu => by
        show f_X3_cellsToFieldEnd_L18 _ _ _ _ (fu + 1) _ (nI z) = _
        rw [f_X3_cellsToFieldEnd_L18.eq_2, if_pos (nI_le (Nat.le_refl _) (by omega))])
      (fun fu i hi => by
        show f_X3_cellsToFieldEnd_L18 _ _ _ _ (fu + 1) (nI ((k + i) % z)) (nI i) = _
        have hm' : (k + i) % z < z := Nat.mod_lt _ hz
        rw [f_X3_cellsToFieldEnd_L18.eq_2, if_neg (nI_ge hi (by omega)), c_get hn hn2 hS hm', ifA (hS _ hm').2, c_after (by omega) hm', Nat.mod_add_mod, nI_1]
        rfl)
      FU 0 (Nat.zero_le _) (FU_big (by omega))
    have h : f_X3_cellsToFieldEnd_L18 (nI z) (nI (cnt sc 0 z)) n f FU (nI ((k + 0) % z)) (nI 0) = _ := h
    rw [Nat.add_zero, Nat.mod_eq_of_lt hk, nI_0] at h
    rw [h]
    unfold toE
    rw [Nat.sub_zero]
    cases e : nxt z sc k with
    | none => exact absurd ((nxt_none hz hk).mp e) h0
    | some m =>
      have e2 : ff (fun i => atb sc ((k + i) % z)) 0 z = some m := e
      rw [e2]
theorem nthA_none {sc : Nat → Nat} : ∀ {m i t : Nat}, cnt sc i m ≤ t → nthA sc i m t = none := by
  intro m
  induction m with
  | zero => intro i t _; rfl
  | succ m ih =>
    intro i t h
    unfold cnt at h
    unfold nthA
    by_cases ha : atb sc i = true
    · rw [if_pos ha] at h ⊢
      rw [if_neg (by omega)]
      exact ih (by omega)
    · rw [if_neg ha] at h ⊢
      exact ih (by omega)
theorem c_startOfField (hn : z ≤ n) (hn2 : n ≤ 5676) (hS : SCR z f sc) {t : Nat} (ht : t < 2147483648) : f_X3_startOfField (nI z) (nI (cnt sc 0 z)) n f (nI t) = some (oI (nthA sc 0 z t)) := by
  unfold f_X3_startOfField
  have hc := cnt_le sc z 0
  rw [if_neg (nI_pos ht)]
  by_cases h0 : t < cnt sc 0 z
  · rw [if_pos (nI_lt h0 (by omega))]
    have key : ∀ fu i m, i ≤ z → z - i < fu → m ≤ i → m ≤ t → f_X3_startOfField_L18 (nI z) (nI (cnt sc 0 z)) n f fu (nI t) (nI m) (nI i) = some (oI (nthA sc i (z - i) (t - m))) := by
      intro fu
      induction fu with
      | zero => intro i m _ h; omega
      | succ fu ih =>
        intro i m hi hf hm hmt
        rw [f_X3_startOfField_L18.eq_2]
        by_cases e : i = z
        · subst e
          rw [if_pos (nI_le (Nat.le_refl _) (by omega)), Nat.sub_self]
          rfl
        · rw [if_neg (nI_ge (by omega) (by omega)), c_get hn hn2 hS (by omega), ifA (hS i (by omega)).2]
          simp only [nI_1]
          obtain ⟨m', hm'⟩ : ∃ m', z - i = m' + 1 := ⟨z - i - 1, by omega⟩
          rw [hm']
          unfold nthA
          show (if atb sc i = true then _ else _) = _
          by_cases h : atb sc i = true
          · rw [if_pos h, if_pos h]
            by_cases h2 : m = t
            · rw [if_pos ((nI_eq (by omega) (by omega)).mpr h2), if_pos (by omega)]
              rfl
            · rw [if_neg (fun q => h2 ((nI_eq (by omega) (by omega)).mp q)), if_neg (by omega), ih (i + 1) (m + 1) (by omega) (by omega) (by omega) (by omega), show z - (i + 1) = m' by omega, Nat.sub_sub]
          · rw [if_neg h, if_neg h, ih (i + 1) m (by omega) (by omega) (by omega) hmt, show z - (i + 1) = m' by omega]
    have h := key FU 0 0 (Nat.zero_le _) (FU_big (by omega)) (by omega) (by omega)
    rw [Nat.sub_zero, Nat.sub_zero, nI_0] at h
    exact h
  · rw [if_neg (nI_nlt (by omega) ht), nthA_none (by omega)]
    rfl
theorem c_startOfField_neg {a : Int32} (ha : a < 0) (fl : Int32) : f_X3_startOfField (nI z) fl n f a = some (-1) := by
  unfold f_X3_startOfField
  rw [if_pos ha]
/-- where a tab stops: behind an attribute that is not protected and has no attribute behind it -/
def bgn (z : Nat) (sc : Nat → Nat) (k : Nat) : Bool := atb sc k && !prot (sc k) && !atb sc ((k + 1) % z)
theorem c_isTabStop (hz : 0 < z) (hn : z ≤ n) (hn2 : n ≤ 5676) (hS : SCR z f sc) (hk : k < z) : f_X3_isTabStop (nI z) n f (nI k) = bgn z sc k := by
  unfold f_X3_isTabStop f_X3_startsOpenField bgn
  have hm' : (k + 1) % z < z := Nat.mod_lt _ hz
  rw [c_get hn hn2 hS hk, ifA (hS k hk).2, c_isOpen hz hn hn2 hS hk, c_after (by omega) hk, c_get hn hn2 hS hm', ifA' (hS _ hm').2]
  simp only [ifb]
  show (if (if atb sc k = true then _ else _) = true then (if atb sc ((k + 1) % z) = true then _ else _) else _) = _
  cases atb sc k <;> cases prot (sc k) <;> cases atb sc ((k + 1) % z) <;> rfl
def tabF (z : Nat) (sc : Nat → Nat) (k : Nat) : Nat := match ff (fun i => bgn z sc ((k + i) % z)) 0 z with
  | some i => (k + i + 1) % z
  | none => 0
theorem c_nextTabStop (hz : 0 < z) (hn : z ≤ n) (hn2 : n ≤ 5676) (hS : SCR z f sc) (hk : k < z) : f_X3_nextTabStop (nI z) n f (nI k) = some (nI (tabF z sc k)) := by
  unfold f_X3_nextTabStop
  have h := scan (fun fu i => f_X3_nextTabStop_L4 (nI z) n f fu (nI ((k + i) % z)) (nI i)) (fun i => bgn z sc ((k + i) % z)) z (fun i => nI ((k + i + 1) % z)) 0
    (fun fu => by
      show f_X3_nextTabStop_L4 _ _ _ (fu + 1) _ (nI z) = _
      rw [f_X3_nextTabStop_L4.eq_2, if_pos (nI_le (Nat.le_refl _) (by omega))])
    (fun fu i hi => by
      show f_X3_nextTabStop_L4 _ _ _ (fu + 1) (nI ((k + i) % z)) (nI i) = _
      have hm' : (k + i) % z < z := Nat.mod_lt _ hz
      rw [f_X3_nextTabStop_L4.eq_2, if_neg (nI_ge hi (by omega)), c_isTabStop hz hn hn2 hS hm', ifb, c_after (by omega) hm', Nat.mod_add_mod, nI_1]
      rfl)
    FU 0 (Nat.zero_le _) (FU_big (by omega))
  have h : f_X3_nextTabStop_L4 (nI z) n f FU (nI ((k + 0) % z)) (nI 0) = _ := h
  rw [Nat.add_zero, Nat.mod_eq_of_lt hk, nI_0] at h
  rw [h]
  unfold tabF
  rw [Nat.sub_zero]
  cases ff (fun i => bgn z sc ((k + i) % z)) 0 z with
  | none => exact congrArg some nI_0.symm
  | some i => rfl
end CP
