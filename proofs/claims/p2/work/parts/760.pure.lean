/-! Streams to the terminal: bytes, addresses, pairs, both sides at once. -/
def STR (gl gn : Nat) (gb st : Nat → Int32) (sb : Nat → Nat) : Prop := gl ≤ gn ∧ gn ≤ 65536 ∧ gl ≤ 8192 ∧ ∀ i, i < gl → (gb i &&& 255 = nI (sb i) ∧ st i = nI (sb i) ∧ sb i < 256)
theorem nI_nn {a : Nat} (h : a < 2147483648) : ¬ nI a < 0 := fun h1 => by
  have h2 := Int32.lt_iff_toInt_lt.mp h1
  rw [nI_toInt (by omega)] at h2
  have h3 : (0 : Int32).toInt = 0 := by decide
  omega
theorem nI_m1 {a : Nat} (h : a < 2147483648) : ¬ nI a = -1 := fun h1 => by
  have h2 : (nI a).toInt = (-1 : Int32).toInt := by rw [h1]
  rw [nI_toInt (by omega)] at h2
  have h3 : (-1 : Int32).toInt = -1 := by decide
  omega
section STRM
variable {gl gn : Nat} {gb st : Nat → Int32} {sb : Nat → Nat} {z : Nat}
theorem c_take (h : STR gl gn gb st sb) {p : Nat} (hp : p < gl) : f_X1_take (nI p) (nI gl) gn gb = (nI (sb p), nI (p + 1)) := by
  obtain ⟨h1, h2, h3, h4⟩ := h
  obtain ⟨h5, h6, h7⟩ := h4 p hp
  have e : f_X0_get_oG (nI gl) gn gb (nI p) = nI (sb p) := by
    unfold f_X0_get_oG
    rw [if_neg (nI_nn (by omega)), if_neg (nI_ge hp (by omega)), if_pos ((nI_ltI (by omega) (by omega)).mpr (by omega)), nI_clamp (by omega), h5]
  unfold f_X1_take
  rw [e, if_neg (nI_m1 (by omega)), nI_1]
theorem c_take_no {p : Nat} (hp : gl ≤ p) (hp2 : p ≤ 100000) : f_X1_take (nI p) (nI gl) gn gb = (-1, nI p) := by
  have e : f_X0_get_oG (nI gl) gn gb (nI p) = -1 := by
    unfold f_X0_get_oG
    rw [if_neg (nI_nn (by omega)), if_pos ((nI_leI (by omega) (by omega)).mpr hp)]
  unfold f_X1_take
  rw [e, if_pos rfl]
theorem r_take (h : STR gl gn gb st sb) {p : Nat} (hp : p < gl) : f_X6_take (nI p) st = some (nI (sb p), nI (p + 1)) := by
  obtain ⟨h1, h2, h3, h4⟩ := h
  obtain ⟨h5, h6, h7⟩ := h4 p hp
  unfold f_X6_take
  have e : nI p + 1 - 1 = nI p := by rw [nI_1]; exact nI_pred p
  rw [e, if_neg (vp_in_nI (n := p) (N := 8192) (by omega) (by decide)), nI_clamp (by omega), h6, nI_1]
theorem r_lacks {p k : Nat} (hp : p ≤ 100000) (hk : k ≤ 100000) (hg : gl ≤ 100000) (br : Bool) : f_X6_lacks (nI gl) (nI p) br (nI k) = if p + k ≤ gl then (false, br) else (true, true) := by
  unfold f_X6_lacks
  rw [nI_add]
  rcases Nat.lt_or_ge gl (p + k) with h | h
  · rw [if_pos ((nI_ltI (by omega) (by omega)).mpr h), if_neg (by omega)]
    rfl
  · rw [if_neg (fun e => by have := (nI_ltI (by omega) (by omega)).mp e; omega), if_pos h]
theorem r_lacks1 {p : Nat} (hp : p ≤ 100000) (hg : gl ≤ 100000) (br : Bool) : f_X6_lacks (nI gl) (nI p) br 1 = if p + 1 ≤ gl then (false, br) else (true, true) := r_lacks (k := 1) hp (by omega) hg br
theorem r_lacks2 {p : Nat} (hp : p ≤ 100000) (hg : gl ≤ 100000) (br : Bool) : f_X6_lacks (nI gl) (nI p) br 2 = if p + 2 ≤ gl then (false, br) else (true, true) := r_lacks (k := 2) hp (by omega) hg br
theorem b63 {a : Nat} (h : a < 256) : nI a &&& 63 = nI (a % 64) := pk_andN (by omega) 6 (by decide)
/-- an address of two bytes -/
theorem adr_same (hz2 : z ≤ 5676) (h : STR gl gn gb st sb) {p : Nat} (hp : p ≤ gl) :
    (∃ k, k < z ∧ p + 2 ≤ gl ∧ f_X1_takeAddress (nI z) (nI p) (nI gl) gn gb = (nI k, nI (p + 2)) ∧ f_X6_address (nI z) (nI gl) (nI p) false st = some (nI k, nI (p + 2), false)) ∨
    (∃ q t, p ≤ q ∧ q ≤ gl ∧ f_X1_takeAddress (nI z) (nI p) (nI gl) gn gb = (-1, nI q) ∧ f_X6_address (nI z) (nI gl) (nI p) false st = some (-1, nI t, true)) := by
  obtain ⟨g1, g2, g3, g4⟩ := id h
  unfold f_X1_takeAddress f_X6_address
  rw [r_lacks2 (by omega) (by omega)]
  rcases Nat.lt_or_ge gl (p + 2) with h1 | h1
  · rw [if_neg (by omega)]
    refine Or.inr ?_
    rcases Nat.lt_or_ge p gl with h2 | h2
    · rw [c_take h h2]
      dsimp only [thn]
      rw [c_take_no (by omega) (by omega), if_neg (nI_m1 (by have := (g4 p h2).2.2; omega))]
      exact ⟨p + 1, p, by omega, by omega, rfl, rfl⟩
    · rw [c_take_no h2 (by omega)]
      dsimp only [thn]
      rw [c_take_no h2 (by omega)]
      exact ⟨p, p, by omega, by omega, rfl, rfl⟩
  · have ha := (g4 p (by omega)).2.2
    have hb := (g4 (p + 1) (by omega)).2.2
    rw [if_pos h1, c_take h (by omega)]
    dsimp only [thn]
    rw [c_take h (p := p + 1) (by omega), r_take h (p := p) (by omega), if_neg (nI_m1 (by omega)), if_neg (nI_m1 (by omega)), if_pos (show b2i false = 0 from rfl)]
    dsimp only [Option.bind_some]
    rw [r_take h (p := p + 1) (by omega), Option.bind_some]
    dsimp only
    rw [b63 ha, b63 hb, show ((64 : Int32)) = nI 64 from rfl, show ((256 : Int32)) = nI 256 from rfl, nI_ml, nI_add, nI_ml, nI_add, nI_ml, nI_add, Nat.mul_comm 256 (sb p)]
    rcases Nat.lt_or_ge (sb p) 64 with h5 | h5
    · rw [if_neg (nI_ge h5 (by decide)), if_neg (nI_ge h5 (by decide))]
      rcases Nat.lt_or_ge (sb p * 256 + sb (p + 1)) z with h6 | h6
      · rw [if_neg (nI_ge h6 (by omega)), if_neg (nI_ge h6 (by omega))]
        exact Or.inl ⟨_, h6, h1, rfl, rfl⟩
      · rw [if_pos ((nI_leI (by omega) (by omega)).mpr h6), if_pos ((nI_leI (by omega) (by omega)).mpr h6)]
        exact Or.inr ⟨p + 2, p + 2, by omega, h1, rfl, rfl⟩
    · rw [if_pos ((nI_leI (by omega) (by omega)).mpr h5), if_pos ((nI_leI (by omega) (by omega)).mpr h5)]
      rcases Nat.lt_or_ge (sb p % 64 * 64 + sb (p + 1) % 64) z with h6 | h6
      · rw [if_neg (nI_ge h6 (by omega)), if_neg (nI_ge h6 (by omega))]
        exact Or.inl ⟨_, h6, h1, rfl, rfl⟩
      · rw [if_pos ((nI_leI (by omega) (by omega)).mpr h6), if_pos ((nI_leI (by omega) (by omega)).mpr h6)]
        exact Or.inr ⟨p + 2, p + 2, by omega, h1, rfl, rfl⟩
theorem c_prs (h : STR gl gn gb st sb) {m : Nat} (hm : m < 256) (wo : Nat) : ∀ (fu i p : Nat) (v : Option Nat), m < fu + i → i ≤ m → p + 2 * (m - i) ≤ gl → (∀ x, v = some x → x < 256) →
    ∃ v' : Option Nat, (∀ x, v' = some x → x < 256) ∧ f_X1_takePairs_L35 (nI gl) gn gb fu (nI m) (nI (v.getD wo)) (nI i) (nI p) = some (nI (v'.getD wo), nI (p + 2 * (m - i))) ∧ f_X6_pairs_L31 (nI gl) st fu (nI m) (oI v) (nI i) (nI p) false = some (oI v', nI (p + 2 * (m - i)), false) := by
  intro fu
  induction fu with
  | zero => intro i p v h1 h2; omega
  | succ fu ih =>
    intro i p v h1 h2 h3 h4
    rw [f_X1_takePairs_L35.eq_2, f_X6_pairs_L31.eq_2]
    rcases Nat.lt_or_ge i m with h5 | h5
    · rw [if_neg (nI_ge h5 (by omega)), if_neg (nI_ge h5 (by omega)), c_take h (p := p) (by omega), r_take h (p := p) (by omega), nI_1]
      dsimp only [thn, Option.bind_some]
      rw [c_take h (p := p + 1) (by omega), r_take h (p := p + 1) (by omega)]
      dsimp only [thn, Option.bind_some]
      have e : p + 2 * (m - i) = p + 1 + 1 + 2 * (m - (i + 1)) := by omega
      rw [e]
      rcases Classical.em (nI (sb p) = 192) with h6 | h6
      · rw [if_pos h6, if_pos h6]
        have hx := (h.2.2.2 (p + 1) (by omega)).2.2
        exact ih (i + 1) (p + 1 + 1) (some (sb (p + 1))) (by omega) (by omega) (by omega) (fun x hx2 => by cases hx2; exact hx)
      · rw [if_neg h6, if_neg h6]
        exact ih (i + 1) (p + 1 + 1) v (by omega) (by omega) (by omega) h4
    · rw [if_pos ((nI_leI (by omega) (by omega)).mpr h5), if_pos ((nI_leI (by omega) (by omega)).mpr h5), show p + 2 * (m - i) = p by omega]
      exact ⟨v, h4, rfl, rfl⟩
/-- counted pairs -/
theorem prs_same (h : STR gl gn gb st sb) {p : Nat} (hp : p ≤ gl) (wo : Nat) :
    (∃ (v : Option Nat) (q : Nat), p ≤ q ∧ q ≤ gl ∧ (∀ x, v = some x → x < 256) ∧ f_X1_takePairs (nI p) (nI gl) gn gb (nI wo) = some (nI (v.getD wo), nI q) ∧ f_X6_pairs (nI gl) (nI p) false st = some (oI v, nI q, false)) ∨
    (∃ q t : Nat, p ≤ q ∧ q ≤ gl ∧ f_X1_takePairs (nI p) (nI gl) gn gb (nI wo) = some (-1, nI q) ∧ f_X6_pairs (nI gl) (nI p) false st = some (-1, nI t, true)) := by
  obtain ⟨g1, g2, g3, g4⟩ := id h
  unfold f_X1_takePairs f_X6_pairs
  rw [r_lacks1 (by omega) (by omega)]
  rcases Nat.lt_or_ge p gl with h1 | h1
  · have ha := (g4 p h1).2.2
    rw [if_pos (show p + 1 ≤ gl by omega), c_take h h1, r_take h h1]
    dsimp only [thn, Option.bind_some]
    rw [if_neg (nI_m1 (by omega)), if_pos (show b2i false = 0 from rfl), pk_sub (show p + 1 ≤ gl by omega), show (2 : Int32) * nI (sb p) = nI (2 * sb p) from nI_ml 2 _, r_lacks (by omega) (by omega) (by omega)]
    rcases Nat.lt_or_ge gl (p + 1 + 2 * sb p) with h2 | h2
    · rw [if_neg (nI_ge (by omega) (by omega)), if_neg (show ¬ p + 1 + 2 * sb p ≤ gl by omega)]
      exact Or.inr ⟨p + 1, p + 1, by omega, by omega, rfl, rfl⟩
    · rw [if_pos ((nI_leI (by omega) (by omega)).mpr (by omega)), if_pos (show p + 1 + 2 * sb p ≤ gl by omega), if_pos (show b2i false = 0 from rfl)]
      obtain ⟨v', h3, h4, h5⟩ := c_prs h (m := sb p) ha wo FU 0 (p + 1) none (by show sb p < 100000 + 0; omega) (by omega) (by omega) (fun x hx => by cases hx)
      exact Or.inl ⟨v', p + 1 + 2 * (sb p - 0), by omega, by omega, h3, h4, h5⟩
  · rw [if_neg (show ¬ p + 1 ≤ gl by omega), c_take_no h1 (by omega)]
    exact Or.inr ⟨p, p, by omega, by omega, rfl, rfl⟩
theorem sign_same (a : Int32) : f_X1_isSign a = f_X6_isSign a := rfl
end STRM
