/-! What is asked of the screen: both sides. -/
section RDS
variable {z n : Nat} {f g : Nat → Int32} {sc : Nat → Nat}
theorem hm_self (hz : 0 < z) {k : Nat} (hk : k < z) (h : atb sc k = true) : hm z sc k = some k := by
  unfold hm
  obtain ⟨m, rfl⟩ : ∃ m, z = m + 1 := ⟨z - 1, by omega⟩
  have e : (k + (m + 1) - 0) % (m + 1) = k := by rw [Nat.sub_zero, Nat.add_mod_right, Nat.mod_eq_of_lt hk]
  rw [show ff (fun i => atb sc ((k + (m + 1) - i) % (m + 1))) 0 (m + 1) = some 0 from by
    show (if atb sc ((k + (m + 1) - 0) % (m + 1)) = true then some 0 else _) = some 0
    rw [e, if_pos h]]
  show some ((k + (m + 1) - 0) % (m + 1)) = some k
  rw [e]
theorem atOf_self (hz : 0 < z) {k : Nat} (hk : k < z) (h : atb sc k = true) : atOf z sc k = sc k - 256 := by
  unfold atOf
  rw [hm_self hz hk h]
def sgN (z : Nat) (sc : Nat → Nat) (k : Nat) : Nat → Nat
  | 0 => 0
  | m + 1 => sgN z sc k m + (if sc ((k + m) % z) = 0 then 0 else 1)
theorem sgN_le {k : Nat} : ∀ m, sgN z sc k m ≤ m := by
  intro m
  induction m with
  | zero => exact Nat.le_refl _
  | succ m ih =>
    unfold sgN
    split <;> omega
theorem c_sg18 (hz : 0 < z) (hn : z ≤ n) (hn2 : n ≤ 5676) (hS : SCR z f sc) (F : Int32) {k m : Nat} (hm6 : m ≤ 6000) : ∀ (fu i : Nat), m < fu + i → i ≤ m → f_X3_signsOfField_L18 (nI z) F n f fu (nI ((k + i) % z)) (nI m) (nI (sgN z sc k i)) (nI i) = some (nI (sgN z sc k m)) := by
  intro fu
  induction fu with
  | zero => intro i h1 h2; omega
  | succ fu ih =>
    intro i h1 h2
    rw [f_X3_signsOfField_L18.eq_2]
    rcases Nat.lt_or_ge i m with h | h
    · have hk := Nat.mod_lt (k + i) hz
      have hv := (hS _ hk).2
      rw [if_neg (nI_ge h (by omega)), c_get hn hn2 hS hk, c_after (by omega) hk, nI_1, nI_1, show ((k + i) % z + 1) % z = (k + (i + 1)) % z by rw [Nat.mod_add_mod]; rfl]
      have ih' := ih (i + 1) (by omega) (by omega)
      rw [show sgN z sc k (i + 1) = sgN z sc k i + (if sc ((k + i) % z) = 0 then 0 else 1) from rfl] at ih'
      rcases Nat.eq_zero_or_pos (sc ((k + i) % z)) with h3 | h3
      · rw [h3, if_pos rfl] at ih'
        rw [h3, if_pos (show nI 0 = 0 from rfl)]
        exact ih'
      · rw [if_neg (show ¬ sc ((k + i) % z) = 0 by omega)] at ih'
        rw [if_neg (show ¬ nI (sc ((k + i) % z)) = 0 from nI_ne (b := 0) (by omega) (by decide) (by omega))]
        exact ih'
    · rw [if_pos ((nI_leI (by omega) (by omega)).mpr h), show i = m by omega]
theorem r_f58 (hz : 0 < z) (hz2 : z ≤ 5676) (hS : SCR z g sc) (hc : 0 < cnt sc 0 z) {k : Nat} (hk : k < z) (v2 th : Int32) : ∀ (d i fu : Nat), i + d = toE z sc ((k + 1) % z) → d + 1 < fu → f_X6_field_L58 (nI z) g fu v2 (nI k) (nI i) (nI (sgN z sc ((k + 1) % z) i)) (nI (i + 1)) th = some ((if v2 = 2 then nI (toE z sc ((k + 1) % z)) else nI (sgN z sc ((k + 1) % z) (toE z sc ((k + 1) % z)))), th) := by
  obtain ⟨t1, t2⟩ := toE_true hz (Nat.mod_lt (k + 1) hz) hc
  have t3 := toE_atb (sc := sc) hz (Nat.mod_lt (k + 1) hz)
  have em : ∀ i, ((k + 1) % z + i) % z = (k + (i + 1)) % z := fun i => by rw [Nat.mod_add_mod]; congr 1; omega
  rw [em] at t1
  intro d
  induction d with
  | zero =>
    intro i fu h1 h2
    obtain ⟨fu, rfl⟩ : ∃ fu', fu = fu' + 1 := ⟨fu - 1, by omega⟩
    have hi : i = toE z sc ((k + 1) % z) := by omega
    rw [f_X6_field_L58.eq_2, ← hi]
    rcases Nat.lt_or_ge (i + 1) z with h3 | h3
    · rw [if_neg (nI_ge h3 (by omega)), nI_add, rndA hz hz2 (by omega), Option.bind_some, Option.bind_some, r_isAtt hz2 hS (Nat.mod_lt _ hz), Option.bind_some, hi, t1, if_neg (show ¬ b2i true = 0 by decide)]
      by_cases h4 : v2 = 2
      · rw [if_pos h4, if_pos h4]
      · rw [if_neg h4, if_neg h4]
    · rw [if_pos ((nI_leI (by omega) (by omega)).mpr h3)]
      by_cases h4 : v2 = 2
      · rw [if_pos h4, if_pos h4]
      · rw [if_neg h4, if_neg h4]
  | succ d ih =>
    intro i fu h1 h2
    obtain ⟨fu, rfl⟩ : ∃ fu', fu = fu' + 1 := ⟨fu - 1, by omega⟩
    have h5 := t3 i (by omega)
    have hkm := Nat.mod_lt (k + (i + 1)) hz
    have hv := hS _ hkm
    rw [em] at h5
    rw [f_X6_field_L58.eq_2, if_neg (nI_ge (show i + 1 < z by omega) (by omega)), nI_add, rndA hz hz2 (by omega), Option.bind_some, Option.bind_some, r_isAtt hz2 hS hkm, Option.bind_some, h5, if_pos (show b2i false = 0 from rfl), if_neg (s_in (by omega)), nI_clamp (by omega), hv.1, nI_1, nI_1, nI_1]
    have ih' := ih (i + 1) fu (by omega) (by omega)
    rw [show sgN z sc ((k + 1) % z) (i + 1) = sgN z sc ((k + 1) % z) i + (if sc (((k + 1) % z + i) % z) = 0 then 0 else 1) from rfl, em] at ih'
    rcases Nat.eq_zero_or_pos (sc ((k + (i + 1)) % z)) with h6 | h6
    · rw [h6, if_pos rfl] at ih'
      rw [h6, if_pos (show nI 0 = 0 from rfl)]
      exact ih'
    · rw [if_neg (show ¬ sc ((k + (i + 1)) % z) = 0 by omega)] at ih'
      rw [if_neg (show ¬ nI (sc ((k + (i + 1)) % z)) = 0 from nI_ne (b := 0) (by omega) (by decide) (by omega))]
      exact ih'
theorem cnt_of (hz : 0 < z) {k : Nat} (hk : k < z) (h : atb sc k = true) : 0 < cnt sc 0 z := cnt_pos hk h
theorem field_same (hz : 0 < z) (hn : z ≤ n) (hn2 : n ≤ 5676) (hS : SCR z f sc) (hS2 : SCR z g sc) (a b th : Int32) : ∃ x, f_X5_field (nI z) (nI (cnt sc 0 z)) n f a b = some x ∧ f_X6_field (nI z) th g a b = some (x, 0) := by
  unfold f_X5_field f_X6_field
  rcases Classical.em (a < 0) with ha | ha
  · rw [c_startOfField_neg ha, r_attributeAt_neg (by omega) hS2 ha]
    exact ⟨-1, rfl, rfl⟩
  obtain ⟨t, ht, rfl⟩ := nI_of ha
  rw [c_startOfField hn hn2 hS ht, r_attributeAt (by omega) hS2 ht]
  cases hs : nthA sc 0 z t with
  | none => exact ⟨-1, rfl, rfl⟩
  | some s =>
    obtain ⟨-, h1, h2⟩ := nthA_lt hs
    have h1 : s < z := by omega
    have hv := hS2 s h1
    have hc := cnt_of hz h1 h2
    rw [show oI (some s) = nI s from rfl]
    dsimp only [Option.bind_some]
    rw [if_neg (nI_m1 (by omega)), if_neg (nI_m1 (by omega)), c_after (by omega) h1, c_attributeOver hz hn hn2 hS h1, hm_self hz h1 h2, atOf_self hz h1 h2, c_toEnd hz hn hn2 hS (Nat.mod_lt _ hz), if_neg (show ¬ some s = none by intro e; cases e), if_neg (s_in (by omega)), nI_clamp (by omega), hv.1]
    have e256 : nI (sc s) - 256 = nI (sc s - 256) := pk_sub (b := 256) (by unfold atb at h2; exact of_decide_eq_true h2)
    have hE := toE_le (z := z) (sc := sc) (k := (s + 1) % z)
    have hsg : f_X3_signsOfField (nI z) (nI (cnt sc 0 z)) n f (nI s) = some (nI (sgN z sc ((s + 1) % z) (toE z sc ((s + 1) % z)))) := by
      unfold f_X3_signsOfField
      rw [c_after (by omega) h1, c_toEnd hz hn hn2 hS (Nat.mod_lt _ hz), Option.bind_some]
      have := c_sg18 hz hn hn2 hS (nI (cnt sc 0 z)) (k := (s + 1) % z) (m := toE z sc ((s + 1) % z)) (by omega) FU 0 (by show _ < 100000 + 0; omega) (by omega)
      rw [Nat.add_zero, Nat.mod_mod] at this
      exact this
    have h58 := r_f58 hz (by omega) hS2 hc h1 b 0 (toE z sc ((s + 1) % z)) 0 FU (by omega) (by show _ < 100000; omega)
    rw [hsg, show f_X6_field_L58 (nI z) g FU b (nI s) 0 0 1 0 = _ from h58, e256]
    rcases Classical.em (b = 0) with b0 | b0
    · subst b0; exact ⟨_, rfl, rfl⟩
    rcases Classical.em (b = 1) with b1 | b1
    · subst b1; exact ⟨_, rfl, rfl⟩
    rcases Classical.em (b = 2) with b2 | b2
    · subst b2; exact ⟨_, rfl, rfl⟩
    rcases Classical.em (b = 3) with b3 | b3
    · subst b3; exact ⟨_, rfl, rfl⟩
    rw [if_neg b0, if_neg b1, if_neg b2, if_neg b3]
    refine ⟨-1, rfl, ?_⟩
    rcases Classical.em (b < 0) with h5 | h5
    · rw [if_pos h5]
    · rw [if_neg h5]
      rcases Classical.em (b ≤ 3) with h6 | h6
      · obtain ⟨x, rfl, -, hx⟩ := in_nat (lo := 0) (hi := 3) (by decide) (by decide) h5 h6
        rcases (show x = 0 ∨ x = 1 ∨ x = 2 ∨ x = 3 by omega) with rfl | rfl | rfl | rfl
        · exact absurd rfl b0
        · exact absurd rfl b1
        · exact absurd rfl b2
        · exact absurd rfl b3
      · rw [if_neg h6]
theorem modified_same (hz : 0 < z) (hn : z ≤ n) (hn2 : n ≤ 5676) (hS : SCR z f sc) (hS2 : SCR z g sc) (a th : Int32) : ∃ x, f_X5_modified (nI z) (nI (cnt sc 0 z)) n f a = some x ∧ f_X6_modified (nI z) th g a = some (x, 0) := by
  unfold f_X5_modified f_X6_modified
  rcases Classical.em (a < 0) with ha | ha
  · rw [c_startOfField_neg ha, r_attributeAt_neg (by omega) hS2 ha]
    exact ⟨false, rfl, rfl⟩
  obtain ⟨t, ht, rfl⟩ := nI_of ha
  rw [c_startOfField hn hn2 hS ht, r_attributeAt (by omega) hS2 ht]
  cases hs : nthA sc 0 z t with
  | none => exact ⟨false, rfl, rfl⟩
  | some s =>
    obtain ⟨-, h1, h2⟩ := nthA_lt hs
    have h1 : s < z := by omega
    have hv := hS2 s h1
    rw [show oI (some s) = nI s from rfl]
    dsimp only [Option.bind_some]
    rw [if_neg (nI_m1 (by omega)), if_neg (nI_m1 (by omega)), c_get hn hn2 hS h1, if_neg (s_in (by omega)), nI_clamp (by omega), hv.1]
    by_cases h5 : nI (sc s) &&& 1 = 0
    · rw [if_pos h5, if_pos h5]; exact ⟨_, rfl, rfl⟩
    · rw [if_neg h5, if_neg h5]; exact ⟨_, rfl, rfl⟩
end RDS
