/-! Pure part: small words for loops, and the reference's functions in naturals. -/
def ff (p : Nat → Bool) : Nat → Nat → Option Nat
  | _, 0 => none
  | i, m + 1 => if p i = true then some i else ff p (i + 1) m
def itr {σ : Type} (step : Nat → σ → σ) : Nat → Nat → σ → σ
  | _, 0, s => s
  | i, m + 1, s => itr step (i + 1) m (step i s)
theorem ff_some {p : Nat → Bool} : ∀ {m i k : Nat}, ff p i m = some k → i ≤ k ∧ k < i + m ∧ p k = true ∧ ∀ j, i ≤ j → j < k → p j = false := by
  intro m
  induction m with
  | zero => intro i k h; cases h
  | succ m ih =>
    intro i k h
    unfold ff at h
    by_cases hp : p i = true
    · rw [if_pos hp] at h
      cases h
      exact ⟨Nat.le_refl _, by omega, hp, fun j h1 h2 => by omega⟩
    · rw [if_neg hp] at h
      obtain ⟨h1, h2, h3, h4⟩ := ih h
      refine ⟨by omega, by omega, h3, fun j a b => ?_⟩
      by_cases e : j = i
      · subst e; simpa using hp
      · exact h4 j (by omega) b
theorem ff_none {p : Nat → Bool} : ∀ {m i : Nat}, ff p i m = none → ∀ j, i ≤ j → j < i + m → p j = false := by
  intro m
  induction m with
  | zero => intro i h j a b; omega
  | succ m ih =>
    intro i h j a b
    unfold ff at h
    by_cases hp : p i = true
    · rw [if_pos hp] at h; cases h
    · rw [if_neg hp] at h
      by_cases e : j = i
      · subst e; simpa using hp
      · exact ih h j (by omega) (by omega)
theorem ff_congr {p q : Nat → Bool} : ∀ {m i : Nat}, (∀ j, i ≤ j → j < i + m → p j = q j) → ff p i m = ff q i m := by
  intro m
  induction m with
  | zero => intro i _; rfl
  | succ m ih =>
    intro i h
    unfold ff
    rw [h i (Nat.le_refl _) (by omega), ih (fun j a b => h j (by omega) (by omega))]
/-- a loop that looks for the first i with p -/
theorem scan {β : Type} (L : Nat → Nat → Option β) (p : Nat → Bool) (n : Nat) (R : Nat → β) (D : β) (h0 : ∀ fu, L (fu + 1) n = some D)
    (hs : ∀ fu i, i < n → L (fu + 1) i = if p i = true then some (R i) else L fu (i + 1)) : ∀ fu i, i ≤ n → n - i < fu → L fu i = some (match ff p i (n - i) with | some k => R k | none => D) := by
  intro fu
  induction fu with
  | zero => intro i _ h; omega
  | succ fu ih =>
    intro i hi hf
    by_cases e : i = n
    · subst e
      rw [h0, Nat.sub_self]
      rfl
    · obtain ⟨m, hm⟩ : ∃ m, n - i = m + 1 := ⟨n - i - 1, by omega⟩
      rw [hs fu i (by omega), hm]
      unfold ff
      by_cases hp : p i = true
      · rw [if_pos hp, if_pos hp]
      · rw [if_neg hp, if_neg hp, ih (i + 1) (by omega) (by omega), show n - (i + 1) = m by omega]
/-- a loop that goes through all i -/
theorem sweep {β σ : Type} (L : Nat → Nat → σ → Option β) (n : Nat) (step : Nat → σ → σ) (I : Nat → σ → Prop) (F : σ → β) (h0 : ∀ fu s, I n s → L (fu + 1) n s = some (F s))
    (hs : ∀ fu i s, i < n → I i s → L (fu + 1) i s = L fu (i + 1) (step i s) ∧ I (i + 1) (step i s)) : ∀ fu i s, i ≤ n → n - i < fu → I i s → L fu i s = some (F (itr step i (n - i) s)) := by
  intro fu
  induction fu with
  | zero => intro i s _ h; omega
  | succ fu ih =>
    intro i s hi hf hI
    by_cases e : i = n
    · subst e
      rw [h0 fu s hI, Nat.sub_self]
      rfl
    · obtain ⟨m, hm⟩ : ∃ m, n - i = m + 1 := ⟨n - i - 1, by omega⟩
      obtain ⟨h1, h2⟩ := hs fu i s (by omega) hI
      rw [h1, ih (i + 1) _ (by omega) (by omega) h2, hm, show n - (i + 1) = m by omega]
      rfl
theorem FU_big {n : Nat} (h : n ≤ 60000) : n < FU := by unfold FU; omega
/-! ints -/
abbrev iI (x : Int) : Int32 := Int32.ofInt x
theorem nI_iI (n : Nat) : nI n = iI n := Int32.ofInt_eq_ofNat.symm
theorem iI_toInt {x : Int} (h1 : -2147483648 ≤ x) (h2 : x < 2147483648) : (iI x).toInt = x := Int32.toInt_ofInt_of_le (by omega) (by omega)
theorem iI_tmod {a : Int} {b : Nat} (h1 : -2147483648 ≤ a) (h2 : a < 2147483648) (hb : b < 2147483648) : iI a - iI a / iI b * iI b = iI (a.tmod b) := by
  have e : iI (a.tdiv b) = iI a / iI b := Int32.ofInt_tdiv (by show (-2147483648 : Int) ≤ a; omega) (by show a ≤ (2147483647 : Int); omega) (by show (-2147483648 : Int) ≤ (b : Int); omega) (by show (b : Int) ≤ (2147483647 : Int); omega)
  rw [← e, ← Int32.ofInt_mul, ← Int32.ofInt_sub]
  congr 1
  have := Int.tmod_add_tdiv_mul a b
  omega
theorem rnd {z : Nat} (hz : 0 < z) (hz2 : z ≤ 5676) (x : Int) (h1 : -1000000 ≤ x) (h2 : x ≤ 1000000) : f_X6_round (nI z) (iI x) = some (nI (x % z).toNat) := by
  unfold f_X6_round
  rw [if_neg (nI_ne0 hz (by omega)), nI_iI, iI_tmod (by omega) (by omega) (by omega), ← Int32.ofInt_add]
  have hb := Int.tmod_lt_of_pos x (show (0 : Int) < z by omega)
  have hb2 := Int.lt_tmod_of_pos x (show (0 : Int) < z by omega)
  rw [iI_tmod (by omega) (by omega) (by omega)]
  congr 1
  rw [nI_iI]
  congr 1
  have h5 : (x.tmod z + z).tmod z = (x.tmod z + z) % z := Int.tmod_eq_emod_of_nonneg (by omega)
  have h6 : (x.tmod z + z) % z = x % z := by
    have hx := Int.tmod_add_tdiv_mul x z
    rw [Int.add_emod_right]
    calc x.tmod z % z = (x.tmod z + x.tdiv z * z) % z := by rw [Int.add_mul_emod_self_right]
      _ = x % z := by rw [hx]
  have h7 : 0 ≤ x % z := Int.emod_nonneg _ (by omega)
  rw [h5, h6]
  omega
