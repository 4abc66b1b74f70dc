/-! Typing and the keys that change the screen: what both sides answer. -/
section P16
variable {z n : Nat} {f : Nat → Int32} {s : Nat → Nat} {k x : Nat}
theorem r_type (hz : 0 < z) (hz2 : z ≤ 5676) (hS : SCR z f s) (hk : k < z) (hx1 : 64 ≤ x) (hx : x < 255) (lk ins : Bool) (th : Int32) :
    ∃ g, f_X6_type (nI z) (nI k) lk ins th f (nI x) = some ((tyN z s k x lk ins).1, nI (tyN z s k x lk ins).2.2.1, (tyN z s k x lk ins).2.2.2, 0, g) ∧ SCR z g (tyN z s k x lk ins).2.1 := by
  unfold f_X6_type
  rw [if_neg (show ¬ nI x < (64 : Int32) from Int32.not_lt.mpr (nI_le (a := 64) hx1 (by omega))), if_pos (show nI x ≤ (254 : Int32) from nI_le (b := 254) (by omega) (by omega)), digs hx (fun b => f_X6_type_L60 (nI z) ins (nI x) b (nI k) lk 0 f), ifb]
  cases lk with
  | true => exact ⟨f, rfl, hS⟩
  | false =>
    rw [if_neg Bool.false_ne_true]
    exact r_type60 hz hz2 hS hk hx ins 0
theorem r_type_out {a : Int32} (h : a < 64 ∨ ¬ a ≤ 254) (zz kk : Int32) (lk ins : Bool) (th : Int32) : f_X6_type zz kk lk ins th f a = some (-1, kk, lk, 0, f) := by
  unfold f_X6_type
  by_cases h1 : a < 64
  · rw [if_pos h1]
  · rw [if_neg h1, if_neg (h.resolve_left h1)]
theorem c_enter_out {a : Int32} (h : a < 64 ∨ ¬ a ≤ 254) (zz ff0 kk : Int32) (lk ins : Bool) : f_X2_enter zz ff0 kk n f lk ins a = some (-1, ff0, kk, f, lk) := by
  unfold f_X2_enter
  by_cases h1 : a < 64
  · rw [if_pos h1]
  · rw [if_neg h1, if_neg (h.resolve_left h1)]
/-- an int from a to b is a natural -/
theorem in_nat {a : Int32} {lo hi : Nat} (hlo : lo < 2147483648) (hhi : hi < 2147483648) (h1 : ¬ a < nI lo) (h2 : a ≤ nI hi) : ∃ x, a = nI x ∧ lo ≤ x ∧ x ≤ hi := by
  have e1 := Int32.not_lt.mp h1
  rw [Int32.le_iff_toInt_le] at e1 h2
  rw [nI_iI, iI_toInt (by omega) (by omega)] at e1 h2
  refine ⟨a.toInt.toNat, ?_, by omega, by omega⟩
  rw [nI_iI, Int.toNat_of_nonneg (by omega)]
  exact (Int32.ofInt_toInt a).symm
end P16
