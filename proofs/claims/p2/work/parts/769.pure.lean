/-! Keys and cells: small facts (as in p1). -/
theorem r_shortKey_no {a : Int32} (h : a < 0 ∨ 63 < a) : f_X6_shortKey a = -1 ∧ f_X6_sendingKey a = -1 ∧ f_X2_byteSentBy a = -1 := by
  have n1 : ∀ v : Int32, 0 ≤ v → v ≤ 63 → ¬ a = v := fun v h1 h2 e => by
    subst e
    rcases h with h | h
    · exact absurd h (Int32.not_lt.mpr h1)
    · exact absurd h (Int32.not_lt.mpr h2)
  refine ⟨?_, ?_, ?_⟩
  · unfold f_X6_shortKey
    rw [if_neg (n1 2 (by decide) (by decide)), if_neg (n1 3 (by decide) (by decide)), if_neg (n1 4 (by decide) (by decide)), if_neg (n1 5 (by decide) (by decide))]
  · unfold f_X6_sendingKey
    rw [if_neg (n1 1 (by decide) (by decide))]
    rcases h with h | h
    · rw [if_pos (Int32.lt_trans h (by decide)), if_pos (Int32.lt_trans h (by decide))]
    · rw [if_neg (Int32.not_lt.mpr (Int32.le_of_lt (Int32.lt_trans (by decide) h))), if_pos (Int32.lt_trans (by decide) h), if_neg (Int32.not_lt.mpr (Int32.le_of_lt (Int32.lt_trans (by decide) h))), if_pos (Int32.lt_trans (by decide) h)]
  · unfold f_X2_byteSentBy
    rw [if_neg (n1 1 (by decide) (by decide)), if_neg (n1 2 (by decide) (by decide)), if_neg (n1 3 (by decide) (by decide)), if_neg (n1 4 (by decide) (by decide)), if_neg (n1 5 (by decide) (by decide))]
    rcases h with h | h
    · rw [if_pos (Int32.lt_trans h (by decide))]
    · rw [if_neg (Int32.not_lt.mpr (Int32.le_of_lt (Int32.lt_trans (by decide) h))), if_neg (Int32.not_lt.mpr (Int32.le_of_lt (Int32.lt_trans (by decide) h)))]
theorem key_few : ∀ d : Fin 64, f_X2_byteSentBy (nI d.val) = (if f_X6_sendingKey (nI d.val) = -1 then f_X6_shortKey (nI d.val) else f_X6_sendingKey (nI d.val)) := by decide +kernel
theorem key_tab (a : Int32) : f_X2_byteSentBy a = (if f_X6_sendingKey a = -1 then f_X6_shortKey a else f_X6_sendingKey a) := by
  rcases pk_ix a (n := 64) (by decide) with h | h | ⟨d, hd, rfl⟩
  · obtain ⟨h1, h2, h3⟩ := r_shortKey_no (Or.inl h)
    rw [h1, h2, h3, if_pos rfl]
  · obtain ⟨h1, h2, h3⟩ := r_shortKey_no (a := a) (Or.inr (Int32.lt_of_lt_of_le (by decide) h))
    rw [h1, h2, h3, if_pos rfl]
  · exact key_few ⟨d, hd⟩
theorem con_same {r k : Nat} (hr : r < 2147483648) (hk : k < 2147483648) (a b : Int32) : (∃ i j, i < r ∧ j < k ∧ a = nI i ∧ b = nI j ∧ f_X3_contains (nI r) (nI k) a b = true ∧ f_X6_isCell (nI r) (nI k) a b = true) ∨ (f_X3_contains (nI r) (nI k) a b = false ∧ f_X6_isCell (nI r) (nI k) a b = false) := by
  unfold f_X3_contains f_X6_isCell
  rcases pk_ix a (n := r) (by omega) with h | h | ⟨i, hi, rfl⟩
  · exact Or.inr ⟨by rw [if_pos h], by rw [if_pos h]⟩
  · rcases Classical.em (a < 0) with h0 | h0
    · exact Or.inr ⟨by rw [if_pos h0], by rw [if_pos h0]⟩
    · exact Or.inr ⟨by rw [if_neg h0, if_pos h], by rw [if_neg h0, if_pos h]⟩
  · have e1 : ¬ nI i < 0 := fun h => by
      have h1 := Int32.lt_iff_toInt_lt.mp h
      rw [nI_toInt (by omega)] at h1
      have h2 : (0 : Int32).toInt = 0 := by decide
      omega
    have e2 : ¬ nI r ≤ nI i := nI_ge hi (by omega)
    rcases pk_ix b (n := k) (by omega) with h | h | ⟨j, hj, rfl⟩
    · exact Or.inr ⟨by rw [if_neg e1, if_neg e2, if_pos h], by rw [if_neg e1, if_neg e2, if_pos h]⟩
    · rcases Classical.em (b < 0) with h0 | h0
      · exact Or.inr ⟨by rw [if_neg e1, if_neg e2, if_pos h0], by rw [if_neg e1, if_neg e2, if_pos h0]⟩
      · exact Or.inr ⟨by rw [if_neg e1, if_neg e2, if_neg h0, if_pos h], by rw [if_neg e1, if_neg e2, if_neg h0, if_pos h]⟩
    · have e3 : ¬ nI j < 0 := fun h => by
        have h1 := Int32.lt_iff_toInt_lt.mp h
        rw [nI_toInt (by omega)] at h1
        have h2 : (0 : Int32).toInt = 0 := by decide
        omega
      have e4 : ¬ nI k ≤ nI j := nI_ge hj (by omega)
      exact Or.inl ⟨i, j, hi, hj, rfl, rfl, by rw [if_neg e1, if_neg e2, if_neg e3, if_neg e4], by rw [if_neg e1, if_neg e2, if_neg e3, if_neg e4]⟩
theorem cell_lt {r k i j : Nat} (hi : i < r) (hj : j < k) : i * k + j < r * k := by
  have h1 : (i + 1) * k ≤ r * k := Nat.mul_le_mul_right k hi
  rw [Nat.succ_mul] at h1
  omega
section SGN
variable {r k n : Nat} {f g : Nat → Int32} {sc : Nat → Nat}
theorem scr_at {z : Nat} (hS : SCR z f sc) {i : Nat} (hi : i < z) : f i = nI (sc i) ∧ sc i < 512 := hS i hi
theorem sign_eq (hn : r * k ≤ n) (hn2 : n ≤ 5676) (hr : r ≤ 43) (hk : k ≤ 132) (hS : SCR (r * k) f sc) (hS2 : SCR (r * k) g sc) (a b th : Int32) : f_X6_sign (nI r) (nI k) th g a b = some (f_X5_sign (nI r) (nI k) n f a b, 0) := by
  unfold f_X5_sign f_X6_sign f_X3_addressOf
  rcases con_same (r := r) (k := k) (by omega) (by omega) a b with ⟨i, j, hi, hj, rfl, rfl, h1, h2⟩ | ⟨h1, h2⟩
  · have hlt := cell_lt hi hj
    have hv := hS2 _ hlt
    rw [h1, h2, if_neg (show ¬ b2i true = 0 by decide), if_neg (show ¬ b2i true = 0 by decide), nI_ml i k, nI_add, c_get hn hn2 hS hlt, if_neg (s_in (by omega)), nI_clamp (by omega), hv.1]
    by_cases h5 : nI (sc (i * k + j)) < 256
    · rw [if_pos h5, if_pos h5]
    · rw [if_neg h5, if_neg h5]
  · rw [h1, h2, if_pos (show b2i false = 0 from rfl), if_pos (show b2i false = 0 from rfl)]
theorem attribute_eq (hz : 0 < r * k) (hn : r * k ≤ n) (hn2 : n ≤ 5676) (hr : r ≤ 43) (hk : k ≤ 132) (hS : SCR (r * k) f sc) (hS2 : SCR (r * k) g sc) (a b th : Int32) : ∃ x, f_X5_attribute (nI r) (nI k) (nI (r * k)) (nI (cnt sc 0 (r * k))) n f a b = some x ∧ f_X6_attribute (nI r) (nI k) (nI (r * k)) th g a b = some (x, 0) := by
  unfold f_X5_attribute f_X6_attribute f_X3_addressOf
  rcases con_same (r := r) (k := k) (by omega) (by omega) a b with ⟨i, j, hi, hj, rfl, rfl, h1, h2⟩ | ⟨h1, h2⟩
  · have hlt := cell_lt hi hj
    have hv := hS2 _ hlt
    rw [h1, h2, if_neg (show ¬ b2i true = 0 by decide), if_neg (show ¬ b2i true = 0 by decide), nI_ml i k, nI_add, c_get hn hn2 hS hlt, c_attributeOver hz hn hn2 hS hlt, r_isAtt (by omega) hS2 hlt, r_home hz (by omega) hS2 hlt, r_attributeOf hz (by omega) hS2 hlt]
    dsimp only [Option.bind_some]
    rw [if_neg (s_in (by omega)), nI_clamp (by omega), hv.1, ifb]
    rcases Nat.lt_or_ge (sc (i * k + j)) 256 with h3 | h3
    · have e : atb sc (i * k + j) = false := by unfold atb; exact decide_eq_false (by omega)
      rw [if_pos (show nI (sc (i * k + j)) < 256 from (nI_ltI (b := 256) (by omega) (by decide)).mpr h3), e, if_neg (show ¬ false = true by decide)]
      have hlt2 : ∀ x, hm (r * k) sc (i * k + j) = some x → x < 2147483648 := fun x hx => by have := (hm_lt hz hx).1; omega
      by_cases h4 : hm (r * k) sc (i * k + j) = none
      · rw [if_pos h4, if_pos ((oI_m1 hlt2).mpr h4)]; exact ⟨_, rfl, rfl⟩
      · rw [if_neg h4, if_neg (fun e => h4 ((oI_m1 hlt2).mp e))]; exact ⟨_, rfl, rfl⟩
    · have e : atb sc (i * k + j) = true := by unfold atb; exact decide_eq_true h3
      rw [if_neg (show ¬ nI (sc (i * k + j)) < 256 from fun e => by have := (nI_ltI (b := 256) (by omega) (by decide)).mp e; omega), e, if_pos rfl]
      exact ⟨_, rfl, rfl⟩
  · rw [h1, h2, if_pos (show b2i false = 0 from rfl), if_pos (show b2i false = 0 from rfl)]
    exact ⟨_, rfl, rfl⟩
theorem cell_eq {z : Nat} (hn : z ≤ n) (hn2 : n ≤ 5676) (hS : SCR z f sc) (hS2 : SCR z g sc) (a th : Int32) : (∃ x, f_X5_cell (nI z) n f a = some x ∧ f_X6_cell (nI z) th g a = some (x, 0)) ∨ (f_X5_cell (nI z) n f a = none ∧ f_X6_cell (nI z) th g a = some (0, 1)) := by
  unfold f_X5_cell f_X6_cell
  rcases pk_ix a (n := z) (by omega) with h | h | ⟨i, hi, rfl⟩
  · rw [if_pos h, if_pos h]
    exact Or.inr ⟨rfl, rfl⟩
  · rcases Classical.em (a < 0) with h0 | h0
    · rw [if_pos h0, if_pos h0]
      exact Or.inr ⟨rfl, rfl⟩
    · rw [if_neg h0, if_neg h0, if_neg (Int32.not_lt.mpr h), if_neg (Int32.not_lt.mpr h)]
      exact Or.inr ⟨rfl, rfl⟩
  · rw [if_neg (nI_nn (by omega)), if_neg (nI_nn (by omega)), if_pos ((nI_ltI (by omega) (by omega)).mpr hi), if_pos ((nI_ltI (by omega) (by omega)).mpr hi), c_get hn hn2 hS hi, if_neg (s_in (by omega)), nI_clamp (by omega), (hS2 i hi).1]
    exact Or.inl ⟨_, rfl, rfl⟩
theorem octet_ref {w : Nat} (hw : w ≤ 22800) (wb : Nat → Int32) (a th : Int32) : ∃ y, f_X6_octet th (nI w) wb a = some y := by
  unfold f_X6_octet
  rcases Classical.em (a < 0) with h | h
  · rw [if_pos h]; exact ⟨_, rfl⟩
  · rw [if_neg h]
    rcases pk_ix a (n := w) (by omega) with h1 | h1 | ⟨i, hi, rfl⟩
    · exact absurd h1 h
    · rw [if_neg (Int32.not_lt.mpr h1)]; exact ⟨_, rfl⟩
    · rw [if_pos ((nI_ltI (by omega) (by omega)).mpr hi), if_neg (w_in (by omega))]; exact ⟨_, rfl⟩
end SGN
