/-! The keys that move the cursor, both sides. -/
def mov (z c r : Nat) (sc : Nat → Nat) (k : Nat) (a : Int32) : Nat :=
  if a = 40 then tabF z sc k else if a = 41 then tabB z sc k else if a = 42 then ftt z sc ((k / c + 1) % r * c) else if a = 43 then tabF z sc (z - 1) else
  if a = 44 then (k + z - 1) % z else if a = 45 then (k + 1) % z else if a = 46 then rowUp z c k else rowDn z c k
theorem some_bind {α : Type} (o : Option α) : Option.bind o (fun x => some x) = o := by cases o <;> rfl
section P12
variable {z n c r : Nat} {f : Nat → Int32} {sc : Nat → Nat} {k : Nat}
theorem tabF_lt (hz : 0 < z) : tabF z sc k < z := by
  unfold tabF
  cases ff (fun i => bgn z sc ((k + i) % z)) 0 z with
  | none => exact hz
  | some i => exact Nat.mod_lt _ hz
theorem tabB_lt (hz : 0 < z) : tabB z sc k < z := by
  unfold tabB
  cases ff (fun i => bgn z sc ((k + 2 * z - i - 2) % z)) 0 z with
  | none => exact hz
  | some i => exact Nat.mod_lt _ hz
theorem ftt_lt (hz : 0 < z) : ftt z sc k < z := by
  unfold ftt
  cases ff (fun i => mbt z sc ((k + i) % z)) 0 z with
  | none => exact hz
  | some i => exact Nat.mod_lt _ hz
theorem mov_lt (hz : 0 < z) (hc : 0 < c) (hzr : z = c * r) (hk : k < z) (a : Int32) : mov z c r sc k a < z := by
  unfold mov
  split
  · exact tabF_lt hz
  split
  · exact tabB_lt hz
  split
  · exact ftt_lt hz
  split
  · exact tabF_lt hz
  split
  · exact Nat.mod_lt _ hz
  split
  · exact Nat.mod_lt _ hz
  split
  · exact row_up_lt hzr hc hk
  · exact row_dn_lt hzr hc hk
theorem c_move (hz : 0 < z) (hn : z ≤ n) (hn2 : n ≤ 5676) (hS : SCR z f sc) (hc : 0 < c) (hzr : z = c * r) (hk : k < z) (a : Int32) :
    f_X2_cursorMovedBy (nI c) (nI z) (nI (cnt sc 0 z)) (nI k) n f a = some (nI (mov z c r sc k a)) := by
  obtain ⟨h1, h2, h3, h4⟩ := row_at hc hzr hk
  unfold f_X2_cursorMovedBy mov
  rw [c_nextLine hz hn hn2 hS hc hzr hk, c_rowDown (by omega) (by omega) hk, c_rowUp (by omega) (by omega) hk, nI_s1 hz]
  simp only [some_bind]
  rw [c_nextTabStop hz hn hn2 hS hk, c_previousTabStop hz hn hn2 hS hk, c_nextTabStop hz hn hn2 hS (show z - 1 < z by omega), c_before (by omega) hk, c_after (by omega) hk]
  split
  · rfl
  split
  · rfl
  split
  · rfl
  split
  · rfl
  split
  · rfl
  split
  · rfl
  split
  · rfl
  · rfl
theorem r_move (hz : 0 < z) (hz2 : z ≤ 5676) (hS : SCR z f sc) (hc : 0 < c) (hr : 0 < r) (hzr : z = c * r) (hk : k < z) (a : Int32) :
    f_X6_move (nI r) (nI c) (nI z) (nI k) f a = some (nI (mov z c r sc k a)) := by
  obtain ⟨h1, h2, h3, h4⟩ := row_at hc hzr hk
  have hrz : r ≤ z := by rw [hzr]; exact Nat.le_mul_of_pos_left r hc
  unfold f_X6_move mov
  have e44 : f_X6_round (nI z) (nI k - 1) = some (nI ((k + z - 1) % z)) := rndS (i := 1) hz hz2 (by omega) (by omega)
  have e45 : f_X6_round (nI z) (nI k + 1) = some (nI ((k + 1) % z)) := by rw [nI_1, rndA hz hz2 (by omega)]
  have e46 : (nI k / nI c + nI r - 1 - (nI k / nI c + nI r - 1) / nI r * nI r) * nI c + (nI k - nI k / nI c * nI c) = nI (rowUp z c k) := by
    rw [nI_md (a := k) (by omega) (by omega), nI_dv (by omega) (by omega), nI_add, nI_s1 (Nat.lt_of_lt_of_le hr (Nat.le_add_left _ _)), nI_md (by generalize k / c = q at *; omega) (by omega), nI_ml, nI_add, row_up hc hzr hk]
  have e47 : (nI k / nI c + 1 - (nI k / nI c + 1) / nI r * nI r) * nI c + (nI k - nI k / nI c * nI c) = nI (rowDn z c k) := by
    rw [nI_md (a := k) (by omega) (by omega), nI_dv (by omega) (by omega), nI_1, nI_md (by omega) (by omega), nI_ml, nI_add, row_dn hc hzr hk]
  rw [if_neg (nI_ne0 hc (by omega)), if_neg (nI_ne0 hr (by omega)), if_neg (nI_ne0 hr (by omega)), r_nextLine hz hz2 hS hc hr hzr hk, e44, e45, e46, e47, nI_s1 hz]
  simp only [some_bind]
  rw [r_tab hz hz2 hS hk, r_tabBack hz hz2 hS hk, r_tab hz hz2 hS (show z - 1 < z by omega)]
  split
  · rfl
  split
  · rfl
  split
  · rfl
  split
  · rfl
  split
  · rfl
  split
  · rfl
  split
  · rfl
  · rfl
end P12
