/-! The keys that move the cursor: rows. -/
theorem nI_dv {a b : Nat} (ha : a < 2147483648) (hb : b < 2147483648) : nI a / nI b = nI (a / b) := by
  rw [nI_iI a, nI_iI b, nI_iI (a / b)]
  have e : iI ((a : Int).tdiv b) = iI a / iI b := Int32.ofInt_tdiv (by show (-2147483648 : Int) ≤ a; omega) (by show (a : Int) ≤ (2147483647 : Int); omega) (by show (-2147483648 : Int) ≤ (b : Int); omega) (by show (b : Int) ≤ (2147483647 : Int); omega)
  rw [← e]
  congr 1
theorem nI_ml (a b : Nat) : nI a * nI b = nI (a * b) := (Int32.ofNat_mul a b).symm
def rowDn (z c k : Nat) : Nat := if k + c < z then k + c else k + c - z
def rowUp (z c k : Nat) : Nat := if c ≤ k then k - c else k + z - c
section P11
variable {z n c r : Nat} {f : Nat → Int32} {sc : Nat → Nat} {k : Nat}
theorem row_at (hc : 0 < c) (hzr : z = c * r) (hk : k < z) : k / c < r ∧ k = c * (k / c) + k % c ∧ k % c < c ∧ c * (k / c) + c ≤ z := by
  have h1 := Nat.div_add_mod k c
  have h2 : k / c < r := (Nat.div_lt_iff_lt_mul hc).mpr (by rw [Nat.mul_comm, ← hzr]; exact hk)
  have h3 : c * (k / c + 1) ≤ c * r := Nat.mul_le_mul_left c h2
  rw [Nat.mul_add, Nat.mul_one, ← hzr] at h3
  exact ⟨h2, h1.symm, Nat.mod_lt k hc, h3⟩
theorem row_dn (hc : 0 < c) (hzr : z = c * r) (hk : k < z) : (k / c + 1) % r * c + k % c = rowDn z c k := by
  obtain ⟨h1, h2, h3, h4⟩ := row_at hc hzr hk
  unfold rowDn
  by_cases h : k / c + 1 < r
  · have h5 : c * (k / c + 1 + 1) ≤ c * r := Nat.mul_le_mul_left c h
    rw [Nat.mul_add, Nat.mul_add, Nat.mul_one, ← hzr] at h5
    rw [Nat.mod_eq_of_lt h, Nat.add_mul, Nat.one_mul, Nat.mul_comm (k / c) c, if_pos (by omega)]
    omega
  · have h6 : k / c + 1 = r := by omega
    have h5 : c * (k / c + 1) = c * r := by rw [h6]
    rw [Nat.mul_add, Nat.mul_one, ← hzr] at h5
    rw [h6, Nat.mod_self, Nat.zero_mul, if_neg (by omega)]
    omega
theorem row_up (hc : 0 < c) (hzr : z = c * r) (hk : k < z) : (k / c + r - 1) % r * c + k % c = rowUp z c k := by
  obtain ⟨h1, h2, h3, h4⟩ := row_at hc hzr hk
  unfold rowUp
  by_cases h : k / c = 0
  · rw [h] at h2 ⊢
    rw [Nat.mul_zero] at h2
    obtain ⟨r', rfl⟩ : ∃ r', r = r' + 1 := ⟨r - 1, by omega⟩
    rw [Nat.zero_add, Nat.add_sub_cancel, Nat.mod_eq_of_lt (by omega), if_neg (by omega), Nat.mul_comm r' c]
    rw [Nat.mul_add, Nat.mul_one] at hzr
    omega
  · obtain ⟨q, hq⟩ : ∃ q, k / c = q + 1 := Nat.exists_eq_succ_of_ne_zero h
    rw [hq] at h1 h2 h4 ⊢
    rw [Nat.mul_add, Nat.mul_one] at h2 h4
    rw [show q + 1 + r - 1 = q + r by omega, Nat.add_mod_right, Nat.mod_eq_of_lt (by omega), Nat.mul_comm q c, if_pos (by omega)]
    omega
theorem row_dn_lt (hzr : z = c * r) (hc : 0 < c) (hk : k < z) : rowDn z c k < z := by
  obtain ⟨h1, h2, h3, h4⟩ := row_at hc hzr hk
  unfold rowDn
  by_cases h : k + c < z
  · rw [if_pos h]; exact h
  · rw [if_neg h]; omega
theorem row_up_lt (hzr : z = c * r) (hc : 0 < c) (hk : k < z) : rowUp z c k < z := by
  obtain ⟨h1, h2, h3, h4⟩ := row_at hc hzr hk
  unfold rowUp
  by_cases h : c ≤ k
  · rw [if_pos h]; omega
  · rw [if_neg h]; omega
theorem row_st (hc : 0 < c) (hzr : z = c * r) (hk : k < z) : rowDn z c k - rowDn z c k % c = (k / c + 1) % r * c := by
  rw [← row_dn hc hzr hk, Nat.add_comm, Nat.add_mul_mod_self_right, Nat.mod_mod]
  omega
theorem c_rowDown (hz2 : z ≤ 5676) (hc2 : c ≤ z) (hk : k < z) : f_X2_rowDown (nI c) (nI z) (nI k) = nI (rowDn z c k) := by
  unfold f_X2_rowDown rowDn
  rw [nI_add]
  by_cases h : k + c < z
  · rw [if_pos h, if_pos (nI_lt h (by omega))]
  · rw [if_neg h, if_neg (Int32.not_lt.mpr (nI_le (by omega) (by omega))), nI_sb (by omega)]
theorem c_rowUp (hz2 : z ≤ 5676) (hc2 : c ≤ z) (hk : k < z) : (if nI c ≤ nI k then some (nI k - nI c) else some (nI k - nI c + nI z)) = some (nI (rowUp z c k)) := by
  unfold rowUp
  by_cases h : c ≤ k
  · rw [if_pos h, if_pos (nI_le h (by omega)), nI_sb h]
  · rw [if_neg h, if_neg (nI_ge (by omega) (by omega)), sub_iI, nI_iI z, ← Int32.ofInt_add, nI_iI]
    congr 2
    omega
theorem r_nextLine (hz : 0 < z) (hz2 : z ≤ 5676) (hS : SCR z f sc) (hc : 0 < c) (hr : 0 < r) (hzr : z = c * r) (hk : k < z) :
    f_X6_nextLine (nI r) (nI c) (nI z) (nI k) f = some (nI (ftt z sc ((k / c + 1) % r * c))) := by
  obtain ⟨h1, h2, h3, h4⟩ := row_at hc hzr hk
  have hcz : c ≤ z := by omega
  have hrz : r ≤ z := by rw [hzr]; exact Nat.le_mul_of_pos_left r hc
  have hs : (k / c + 1) % r * c < z := by
    have := row_dn_lt hzr hc hk
    rw [← row_dn hc hzr hk] at this
    omega
  unfold f_X6_nextLine
  rw [if_neg (nI_ne0 hc (by omega)), if_neg (nI_ne0 hr (by omega)), nI_dv (by omega) (by omega), nI_1, nI_md (by omega) (by omega), nI_ml]
  unfold ftt
  generalize (k / c + 1) % r * c = s at hs
  have key : ∀ fu i, i ≤ z → z - i < fu → f_X6_nextLine_L24 (nI r) (nI c) (nI z) (nI k) f fu (nI s) (nI i) = some (nI (match ff (fun i => mbt z sc ((s + i) % z)) i (z - i) with | some i => (s + i) % z | none => 0)) := by
    intro fu
    induction fu with
    | zero => intro i _ h; omega
    | succ fu ih =>
      intro i hi hf
      rw [f_X6_nextLine_L24.eq_2]
      by_cases e : i = z
      · subst e
        rw [if_pos (nI_le (Nat.le_refl _) (by omega)), Nat.sub_self]
        show some (0 : Int32) = some (nI 0)
        rw [nI_0]
      · have hm' : (s + i) % z < z := Nat.mod_lt _ hz
        obtain ⟨m', hmm⟩ : ∃ m', z - i = m' + 1 := ⟨z - i - 1, by omega⟩
        rw [if_neg (nI_ge (by omega) (by omega)), nI_add, rndA hz hz2 (by omega)]
        simp only [Option.bind_some]
        rw [r_mayBeTyped hz hz2 hS hm']
        simp only [Option.bind_some, ifb]
        rw [nI_1, ih (i + 1) (by omega) (by omega), hmm, show z - (i + 1) = m' by omega, ff]
        by_cases q : mbt z sc ((s + i) % z) = true
        · rw [if_pos q, if_pos q]
        · rw [if_neg q, if_neg q]
  have h := key FU 0 (Nat.zero_le _) (FU_big (by omega))
  rw [nI_0, Nat.sub_zero] at h
  exact h
theorem c_nextLine (hz : 0 < z) (hn : z ≤ n) (hn2 : n ≤ 5676) (hS : SCR z f sc) (hc : 0 < c) (hzr : z = c * r) (hk : k < z) :
    (Option.bind (f_X3_startOfRow (nI c) (f_X2_rowDown (nI c) (nI z) (nI k))) (fun r_7 => Option.bind (f_X3_firstToTypeIn (nI z) (nI (cnt sc 0 z)) n f r_7) (fun r_8 => some r_8))) = some (nI (ftt z sc ((k / c + 1) % r * c))) := by
  obtain ⟨h1, h2, h3, h4⟩ := row_at hc hzr hk
  have hs : (k / c + 1) % r * c < z := by
    have := row_dn_lt hzr hc hk
    rw [← row_dn hc hzr hk] at this
    omega
  have hd := row_dn_lt hzr hc hk
  rw [c_rowDown (by omega) (by omega) hk]
  unfold f_X3_startOfRow
  rw [if_pos (show (1 : Int32) ≤ nI c from nI_le (a := 1) hc (by omega)), if_neg (nI_ne0 hc (by omega)), nI_md (by omega) (by omega), nI_sb (Nat.mod_le _ _), row_st hc hzr hk]
  simp only [Option.bind_some]
  rw [c_firstToTypeIn hz hn hn2 hS hs]
  rfl
end P11
