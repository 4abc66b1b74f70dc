/-! p1: the first call on a fresh object. -/
theorem r_shortKey_no {a : Int32} (h : a < 0 ∨ 63 < a) : f_X6_shortKey a = -1 ∧ f_X6_sendingKey a = -1 ∧ f_X2_byteSentBy a = -1 := by
  have n1 : ∀ v : Int32, 0 ≤ v → v ≤ 63 → ¬ a = v := fun v h1 h2 e => by
    subst e
    rcases h with h | h
    · exact absurd h (Int32.not_lt.mpr h1)
    · exact absurd h (Int32.not_lt.mpr h2)
  refine ⟨?_, ?_, ?_⟩
  · unfold f_X6_shortKey
    rw [if_neg (n1 2 (by decide) (by decide)), if_neg (n1 3 (by decide) (by decide)), if_neg (n1 4 (by decide) (by decide)), if_neg (n1 5 (by decide) (by decide))]
  · unfold f_X6_sendingKey
    rw [if_neg (n1 1 (by decide) (by decide))]
    rcases h with h | h
    · rw [if_pos (Int32.lt_trans h (by decide)), if_pos (Int32.lt_trans h (by decide))]
    · rw [if_neg (Int32.not_lt.mpr (Int32.le_of_lt (Int32.lt_trans (by decide) h))), if_pos (Int32.lt_trans (by decide) h), if_neg (Int32.not_lt.mpr (Int32.le_of_lt (Int32.lt_trans (by decide) h))), if_pos (Int32.lt_trans (by decide) h)]
  · unfold f_X2_byteSentBy
    rw [if_neg (n1 1 (by decide) (by decide)), if_neg (n1 2 (by decide) (by decide)), if_neg (n1 3 (by decide) (by decide)), if_neg (n1 4 (by decide) (by decide)), if_neg (n1 5 (by decide) (by decide))]
    rcases h with h | h
    · rw [if_pos (Int32.lt_trans h (by decide))]
    · rw [if_neg (Int32.not_lt.mpr (Int32.le_of_lt (Int32.lt_trans (by decide) h))), if_neg (Int32.not_lt.mpr (Int32.le_of_lt (Int32.lt_trans (by decide) h)))]
theorem key_few : ∀ d : Fin 64, f_X2_byteSentBy (nI d.val) = (if f_X6_sendingKey (nI d.val) = -1 then f_X6_shortKey (nI d.val) else f_X6_sendingKey (nI d.val)) := by decide +kernel
/-- the byte of a key, on both sides -/
theorem key_tab (a : Int32) : f_X2_byteSentBy a = (if f_X6_sendingKey a = -1 then f_X6_shortKey a else f_X6_sendingKey a) := by
  rcases pk_ix a (n := 64) (by decide) with h | h | ⟨d, hd, rfl⟩
  · obtain ⟨h1, h2, h3⟩ := r_shortKey_no (Or.inl h)
    rw [h1, h2, h3, if_pos rfl]
  · obtain ⟨h1, h2, h3⟩ := r_shortKey_no (a := a) (Or.inr (Int32.lt_of_lt_of_le (by decide) h))
    rw [h1, h2, h3, if_pos rfl]
  · exact key_few ⟨d, hd⟩
def RP1 (j : Nat) (x_markCame : Bool) (x_rejectedStreams : Int32) (s_allRows : Int32) (s_allColumns : Int32) (s_rows : Int32) (s_columns : Int32) (s_size : Int32) (s_fields : Int32) (s_cursor : Int32) (s_n : Nat) (s_cells : Nat → Int32) (n_latestKey : Int32) (w_length : Int32) (w_n : Nat) (w_bytes : Nat → Int32) (k_isLocked : Bool) (k_inserts : Bool) (h_spoiled : Bool) (h_position : Int32) (h_place : Int32) (h_signJustPut : Bool) (h_ordersDone : Int32) (h_alarms : Int32) (g_length : Int32) (g_n : Nat) (g_bytes : Nat → Int32) (m_allRows : Int32) (m_allColumns : Int32) (m_rows : Int32) (m_columns : Int32) (m_cells : Int32) (m_cursor : Int32) (m_locked : Bool) (m_insert : Bool) (m_alarms : Int32) (m_rejects : Int32) (m_latest : Int32) (m_thrown : Int32) (m_streamLong : Int32) (m_at : Int32) (m_place : Int32) (m_orders : Int32) (m_escaped : Bool) (m_broken : Bool) (m_signBefore : Bool) (m_free : Bool) (m_waitsLong : Int32) (m_cutOff : Bool) (m_screen : Nat → Int32) (m_stream : Nat → Int32) (m_waits : Nat → Int32) : Prop := j = 0 → ∃ (r k : Nat) (f : Nat → Int32), (1 ≤ r ∧ r ≤ 43 ∧ 1 ≤ k ∧ k ≤ 132) ∧ SCR (r * k) f emp ∧ x_markCame = false ∧ x_rejectedStreams = 0 ∧ s_allRows = (nI r) ∧ s_allColumns = (nI k) ∧ s_rows = (nI r) ∧ s_columns = (nI k) ∧ s_size = (nI r * nI k) ∧ s_fields = 0 ∧ s_cursor = 0 ∧ s_n = (r * k) ∧ s_cells = (fun _ => 0) ∧ n_latestKey = 96 ∧ w_length = 0 ∧ w_n = 64 ∧ w_bytes = (fun _ => 0) ∧ k_isLocked = true ∧ k_inserts = false ∧ h_spoiled = false ∧ h_position = 0 ∧ h_place = 0 ∧ h_signJustPut = false ∧ h_ordersDone = 0 ∧ h_alarms = 0 ∧ g_length = 0 ∧ g_n = 64 ∧ g_bytes = (fun _ => 0) ∧ m_allRows = (nI r) ∧ m_allColumns = (nI k) ∧ m_rows = (nI r) ∧ m_columns = (nI k) ∧ m_cells = (nI (r * k)) ∧ m_cursor = 0 ∧ m_locked = true ∧ m_insert = false ∧ m_alarms = 0 ∧ m_rejects = 0 ∧ m_latest = 96 ∧ m_thrown = 0 ∧ m_streamLong = 0 ∧ m_at = 0 ∧ m_place = 0 ∧ m_orders = 0 ∧ m_escaped = false ∧ m_broken = false ∧ m_signBefore = false ∧ m_free = false ∧ m_waitsLong = 0 ∧ m_cutOff = false ∧ m_screen = f ∧ m_stream = (fun _ => 0) ∧ m_waits = (fun _ => 0)
theorem p_bnd {r k : Nat} (hr : 1 ≤ r ∧ r ≤ 43 ∧ 1 ≤ k ∧ k ≤ 132) : r * k ≤ 5676 ∧ 0 < r * k := ⟨Nat.le_trans (Nat.mul_le_mul hr.2.1 hr.2.2.2) (by decide), Nat.mul_pos hr.1 hr.2.2.1⟩
section P1
variable {r k : Nat} {f : Nat → Int32}
theorem p_out (a : Int32) : ∃ x y, f_X5_out false 0 (nI r) (nI k) (nI r) (nI k) (nI r * nI k) 0 0 (r * k) (fun _ => 0) 96 0 64 (fun _ => 0) true false 0 0 false 0 0 0 64 (fun _ => 0) a = some x ∧ f_X6_out (nI r) (nI k) (nI r) (nI k) (nI (r * k)) 0 true 0 0 96 0 0 0 0 0 false false false false 0 false f (fun _ => 0) (fun _ => 0) a = some y ∧ x.1 = y.1 := by
  unfold f_X5_out f_X6_out
  rw [if_pos (show b2i false = 0 from rfl), if_pos (show b2i false = 0 from rfl), if_pos (show b2i false = 0 from rfl)]
  rcases Classical.em (a &&& 255 = 255) with h | h
  · rw [if_pos h, if_pos h]
    exact ⟨_, _, rfl, rfl, rfl⟩
  · rw [if_neg h, if_neg h]
    unfold thn f_X6_out_L89
    rw [if_pos (show b2i false = 0 from rfl)]
    unfold f_X6_out_L103
    rw [if_neg (show ¬ (0 : Int32) = 8192 by decide), if_pos (show b2i false = 0 from rfl), if_neg (by decide)]
    exact ⟨_, _, rfl, rfl, rfl⟩
theorem p_key (a : Int32) : ∃ x y, f_X5_key (nI r) (nI k) (nI r) (nI k) (nI r * nI k) 0 0 (r * k) (fun _ => 0) 96 0 64 (fun _ => 0) true false a = some x ∧ f_X6_key (nI r) (nI k) (nI r) (nI k) (nI (r * k)) 0 true false 96 0 0 f (fun _ => 0) a = some y ∧ x.1 = y.1 := by
  have ht := key_tab a
  unfold f_X5_key f_X2_press f_X6_key
  rcases Classical.em (f_X6_sendingKey a = -1) with h1 | h1
  · rw [if_pos h1] at ht
    rcases Classical.em (f_X6_shortKey a = -1) with h2 | h2
    · rw [h2] at ht
      rw [if_pos h1, if_pos h2, if_pos ht]
      rcases Classical.em (a < 40) with h3 | h3
      · rw [if_pos h3, if_pos h3]
        unfold f_X6_key_L38
        rw [if_pos (show b2i false = 0 from rfl)]
        exact ⟨_, _, rfl, rfl, rfl⟩
      · rw [if_neg h3, if_neg h3]
        rcases Classical.em (a ≤ 52) with h4 | h4
        · rw [if_pos h4, if_neg (Int32.not_lt.mpr h4)]
          unfold f_X6_key_L38 f_X2_press_L24
          rw [if_neg (show ¬ b2i true = 0 by decide)]
          rcases Classical.em (a = 51) with h5 | h5
          · rw [if_pos h5, if_pos h5]
            exact ⟨_, _, rfl, rfl, rfl⟩
          · rw [if_neg h5, if_neg h5, if_neg (show ¬ b2i true = 0 by decide)]
            exact ⟨_, _, rfl, rfl, rfl⟩
        · rw [if_neg h4, if_pos (Int32.not_le.mp h4)]
          unfold f_X6_key_L38
          rw [if_pos (show b2i false = 0 from rfl)]
          exact ⟨_, _, rfl, rfl, rfl⟩
    · rw [if_pos h1, if_neg h2, if_neg (by rw [ht]; exact h2)]
      unfold f_X6_key_L38 f_X2_press_L24
      rw [if_neg (show ¬ b2i true = 0 by decide)]
      rcases Classical.em (a = 51) with h5 | h5
      · rw [if_pos h5, if_pos h5]
        exact ⟨_, _, rfl, rfl, rfl⟩
      · rw [if_neg h5, if_neg h5, if_neg (show ¬ b2i true = 0 by decide)]
        exact ⟨_, _, rfl, rfl, rfl⟩
  · rw [if_neg h1] at ht
    rw [if_neg h1, if_neg (by rw [ht]; exact h1)]
    unfold f_X6_key_L38 f_X2_press_L24
    rw [if_neg (show ¬ b2i true = 0 by decide)]
    rcases Classical.em (a = 51) with h5 | h5
    · rw [if_pos h5, if_pos h5]
      exact ⟨_, _, rfl, rfl, rfl⟩
    · rw [if_neg h5, if_neg h5, if_neg (show ¬ b2i true = 0 by decide)]
      exact ⟨_, _, rfl, rfl, rfl⟩
theorem p_type (a : Int32) : ∃ x y, f_X5_type (nI r * nI k) 0 0 (r * k) (fun _ => 0) true false a = some x ∧ f_X6_type (nI (r * k)) 0 true false 0 f a = some y ∧ x.1 = y.1 := by
  unfold f_X5_type f_X2_enter f_X6_type
  rcases Classical.em (a < 64) with h | h
  · rw [if_pos h, if_pos h]
    exact ⟨_, _, rfl, rfl, rfl⟩
  · rw [if_neg h, if_neg h]
    rcases Classical.em (a ≤ 254) with h2 | h2
    · rw [if_pos h2, if_pos h2, if_neg (show ¬ b2i true = 0 by decide), if_neg (show ¬ b2i true = 0 by decide)]
      exact ⟨_, _, rfl, rfl, rfl⟩
    · rw [if_neg h2, if_neg h2]
      exact ⟨_, _, rfl, rfl, rfl⟩
theorem con_same {r k : Nat} (hr : r < 2147483648) (hk : k < 2147483648) (a b : Int32) : (∃ i j, i < r ∧ j < k ∧ a = nI i ∧ b = nI j ∧ f_X3_contains (nI r) (nI k) a b = true ∧ f_X6_isCell (nI r) (nI k) a b = true) ∨ (f_X3_contains (nI r) (nI k) a b = false ∧ f_X6_isCell (nI r) (nI k) a b = false) := by
  unfold f_X3_contains f_X6_isCell
  rcases pk_ix a (n := r) (by omega) with h | h | ⟨i, hi, rfl⟩
  · exact Or.inr ⟨by rw [if_pos h], by rw [if_pos h]⟩
  · rcases Classical.em (a < 0) with h0 | h0
    · exact Or.inr ⟨by rw [if_pos h0], by rw [if_pos h0]⟩
    · exact Or.inr ⟨by rw [if_neg h0, if_pos h], by rw [if_neg h0, if_pos h]⟩
  · have e1 : ¬ nI i < 0 := fun h => by
      have h1 := Int32.lt_iff_toInt_lt.mp h
      rw [nI_toInt (by omega)] at h1
      have h2 : (0 : Int32).toInt = 0 := by decide
      omega
    have e2 : ¬ nI r ≤ nI i := nI_ge hi (by omega)
    rcases pk_ix b (n := k) (by omega) with h | h | ⟨j, hj, rfl⟩
    · exact Or.inr ⟨by rw [if_neg e1, if_neg e2, if_pos h], by rw [if_neg e1, if_neg e2, if_pos h]⟩
    · rcases Classical.em (b < 0) with h0 | h0
      · exact Or.inr ⟨by rw [if_neg e1, if_neg e2, if_pos h0], by rw [if_neg e1, if_neg e2, if_pos h0]⟩
      · exact Or.inr ⟨by rw [if_neg e1, if_neg e2, if_neg h0, if_pos h], by rw [if_neg e1, if_neg e2, if_neg h0, if_pos h]⟩
    · have e3 : ¬ nI j < 0 := fun h => by
        have h1 := Int32.lt_iff_toInt_lt.mp h
        rw [nI_toInt (by omega)] at h1
        have h2 : (0 : Int32).toInt = 0 := by decide
        omega
      have e4 : ¬ nI k ≤ nI j := nI_ge hj (by omega)
      exact Or.inl ⟨i, j, hi, hj, rfl, rfl, by rw [if_neg e1, if_neg e2, if_neg e3, if_neg e4], by rw [if_neg e1, if_neg e2, if_neg e3, if_neg e4]⟩
theorem get_emp (n : Nat) (a : Int32) : f_X3_get n (fun _ => 0) a = 0 := by
  unfold f_X3_get
  split
  · rfl
  · split <;> rfl
theorem cell_lt {r k i j : Nat} (hi : i < r) (hj : j < k) : i * k + j < r * k := by
  have h1 : (i + 1) * k ≤ r * k := Nat.mul_le_mul_right k hi
  rw [Nat.succ_mul] at h1
  omega
theorem p_sign (hr : 1 ≤ r ∧ r ≤ 43 ∧ 1 ≤ k ∧ k ≤ 132) (hS : SCR (r * k) f emp) (a b : Int32) : ∃ y, f_X6_sign (nI r) (nI k) 0 f a b = some y ∧ f_X5_sign (nI r) (nI k) (r * k) (fun _ => 0) a b = y.1 := by
  have hb := p_bnd hr
  unfold f_X5_sign f_X6_sign
  rcases con_same (r := r) (k := k) (by omega) (by omega) a b with ⟨i, j, hi, hj, rfl, rfl, h1, h2⟩ | ⟨h1, h2⟩
  · have hlt := cell_lt hi hj
    have e0 := (hS (i * k + j) hlt).1
    rw [h1, h2, if_neg (show ¬ b2i true = 0 by decide), if_neg (show ¬ b2i true = 0 by decide), nI_ml i k, nI_add, get_emp, if_pos (show (0 : Int32) < 256 by decide), if_neg (vp_in_nI (n := i * k + j) (N := 5676) (by omega) (by decide)), nI_clamp (by omega), e0, show nI (emp (i * k + j)) = 0 from rfl, if_pos (show (0 : Int32) < 256 by decide)]
    exact ⟨_, rfl, rfl⟩
  · rw [h1, h2, if_pos (show b2i false = 0 from rfl), if_pos (show b2i false = 0 from rfl)]
    exact ⟨_, rfl, rfl⟩
theorem p_attribute (hr : 1 ≤ r ∧ r ≤ 43 ∧ 1 ≤ k ∧ k ≤ 132) (hS : SCR (r * k) f emp) (a b : Int32) : ∃ x y, f_X5_attribute (nI r) (nI k) (nI r * nI k) 0 (r * k) (fun _ => 0) a b = some x ∧ f_X6_attribute (nI r) (nI k) (nI (r * k)) 0 f a b = some y ∧ x = y.1 := by
  have hb := p_bnd hr
  unfold f_X5_attribute f_X6_attribute
  rcases con_same (r := r) (k := k) (by omega) (by omega) a b with ⟨i, j, hi, hj, rfl, rfl, h1, h2⟩ | ⟨h1, h2⟩
  · have hlt := cell_lt hi hj
    have e1 : hm (r * k) emp (i * k + j) = none := (hm_none hb.2 hlt).mpr (cnt_emp _ _)
    rw [h1, h2, if_neg (show ¬ b2i true = 0 by decide), if_neg (show ¬ b2i true = 0 by decide), nI_ml i k, nI_add, get_emp, if_pos (show (0 : Int32) < 256 by decide), r_isAtt hb.1 hS hlt, r_home hb.2 hb.1 hS hlt, e1]
    unfold f_X3_attributeOver f_X3_startOver
    rw [if_pos (show (0 : Int32) = 0 from rfl)]
    refine ⟨-1, (-1, 0), rfl, ?_, rfl⟩
    rw [show atb emp (i * k + j) = false from rfl]
    rfl
  · rw [h1, h2, if_pos (show b2i false = 0 from rfl), if_pos (show b2i false = 0 from rfl)]
    exact ⟨_, _, rfl, rfl, rfl⟩
theorem p_startOf (a : Int32) (z : Int32) (n : Nat) (g : Nat → Int32) : f_X3_startOfField z 0 n g a = some (-1) := by
  unfold f_X3_startOfField
  rcases Classical.em (a < 0) with h | h
  · rw [if_pos h]
  · rw [if_neg h, if_neg h]
theorem p_attAt {z : Nat} (hz : z ≤ 5676) (hS : SCR z f emp) (a : Int32) : f_X6_attributeAt (nI z) f a = some (-1) := by
  rcases Classical.em (a < 0) with h | h
  · exact r_attributeAt_neg hz hS h
  · obtain ⟨t, ht, rfl⟩ := nI_of h
    rw [r_attributeAt hz hS ht, nthA_none (by rw [cnt_emp]; exact Nat.zero_le _)]
    rfl
theorem p_field (hr : 1 ≤ r ∧ r ≤ 43 ∧ 1 ≤ k ∧ k ≤ 132) (hS : SCR (r * k) f emp) (a b : Int32) : f_X5_field (nI r * nI k) 0 (r * k) (fun _ => 0) a b = some (-1) ∧ f_X6_field (nI (r * k)) 0 f a b = some (-1, 0) := by
  have hb := p_bnd hr
  unfold f_X5_field f_X6_field
  rw [p_startOf, p_attAt hb.1 hS]
  exact ⟨rfl, rfl⟩
theorem p_modified (hr : 1 ≤ r ∧ r ≤ 43 ∧ 1 ≤ k ∧ k ≤ 132) (hS : SCR (r * k) f emp) (a : Int32) : f_X5_modified (nI r * nI k) 0 (r * k) (fun _ => 0) a = some false ∧ f_X6_modified (nI (r * k)) 0 f a = some (false, 0) := by
  have hb := p_bnd hr
  unfold f_X5_modified f_X6_modified
  rw [p_startOf, p_attAt hb.1 hS]
  exact ⟨rfl, rfl⟩
theorem p_octet (a : Int32) : f_X5_octet 0 64 (fun _ => 0) a = none ∧ f_X6_octet 0 0 (fun _ => 0) a = some (0, 1) := by
  unfold f_X5_octet f_X6_octet
  rcases Classical.em (a < 0) with h | h
  · rw [if_pos h, if_pos h]
    exact ⟨rfl, rfl⟩
  · rw [if_neg h, if_neg h, if_neg h, if_neg h]
    exact ⟨rfl, rfl⟩
theorem p_cell (hr : 1 ≤ r ∧ r ≤ 43 ∧ 1 ≤ k ∧ k ≤ 132) (hS : SCR (r * k) f emp) (a : Int32) : (f_X5_cell (nI r * nI k) (r * k) (fun _ => 0) a = some 0 ∧ f_X6_cell (nI (r * k)) 0 f a = some (0, 0)) ∨ (f_X5_cell (nI r * nI k) (r * k) (fun _ => 0) a = none ∧ f_X6_cell (nI (r * k)) 0 f a = some (0, 1)) := by
  have hb := p_bnd hr
  unfold f_X5_cell f_X6_cell
  rw [nI_ml]
  rcases pk_ix a (n := r * k) (by omega) with h | h | ⟨i, hi, rfl⟩
  · rw [if_pos h, if_pos h]
    exact Or.inr ⟨rfl, rfl⟩
  · rcases Classical.em (a < 0) with h0 | h0
    · rw [if_pos h0, if_pos h0]
      exact Or.inr ⟨rfl, rfl⟩
    · rw [if_neg h0, if_neg h0, if_neg (Int32.not_lt.mpr h), if_neg (Int32.not_lt.mpr h)]
      exact Or.inr ⟨rfl, rfl⟩
  · have e1 : ¬ nI i < 0 := fun h => by
      have h1 := Int32.lt_iff_toInt_lt.mp h
      rw [nI_toInt (by omega)] at h1
      have h2 : (0 : Int32).toInt = 0 := by decide
      omega
    have e0 := (hS i hi).1
    rw [if_neg e1, if_neg e1, if_pos ((nI_ltI (by omega) (by omega)).mpr hi), if_pos ((nI_ltI (by omega) (by omega)).mpr hi), get_emp, if_neg (vp_in_nI (n := i) (N := 5676) (by omega) (by decide)), nI_clamp (by omega), e0]
    exact Or.inl ⟨rfl, rfl⟩
theorem p_count (hr : 1 ≤ r ∧ r ≤ 43 ∧ 1 ≤ k ∧ k ≤ 132) (hS : SCR (r * k) f emp) (a : Int32) : ∃ y, f_X6_count (nI r) (nI k) (nI (r * k)) false 0 0 96 0 f a = some y ∧ f_X5_count 0 (nI r) (nI k) 0 96 false 0 a = y.1 := by
  have hb := p_bnd hr
  unfold f_X5_count f_X6_count
  rw [r_fields hb.1 hS, cnt_emp]
  rcases Classical.em (a = 0) with h | h
  · rw [if_pos h, if_pos h]; exact ⟨_, rfl, rfl⟩
  rw [if_neg h, if_neg h]
  rcases Classical.em (a = 1) with h | h
  · rw [if_pos h, if_pos h]; exact ⟨_, rfl, rfl⟩
  rw [if_neg h, if_neg h]
  rcases Classical.em (a = 2) with h | h
  · rw [if_pos h, if_pos h]; exact ⟨_, rfl, rfl⟩
  rw [if_neg h, if_neg h]
  rcases Classical.em (a = 3) with h | h
  · rw [if_pos h, if_pos h]; exact ⟨_, rfl, rfl⟩
  rw [if_neg h, if_neg h]
  rcases Classical.em (a = 4) with h | h
  · rw [if_pos h, if_pos h]; exact ⟨_, rfl, rfl⟩
  rw [if_neg h, if_neg h]
  rcases Classical.em (a = 5) with h | h
  · rw [if_pos h, if_pos h]; exact ⟨_, rfl, rfl⟩
  rw [if_neg h, if_neg h]
  rcases Classical.em (a = 6) with h | h
  · rw [if_pos h, if_pos h]; exact ⟨_, rfl, rfl⟩
  rw [if_neg h, if_neg h]
  exact ⟨_, rfl, rfl⟩
end P1
