/-! Behind a typed sign, and marking a field modified: both sides. -/
def nmc (a : Nat) : Bool := decide (a / 16 % 2 = 1)
theorem and16 {a : Nat} (h : a < 512) : (nI a &&& 16 = 0) ↔ nmc a = false := by
  have key : ∀ a, a < 512 → (decide (nI a &&& 16 = 0) = !(decide (a / 16 % 2 = 1))) := by decide +kernel
  have := key a h
  unfold nmc
  by_cases h1 : nI a &&& 16 = 0 <;> by_cases h2 : a / 16 % 2 = 1 <;> simp_all
theorem and48 {a : Nat} (h : a < 512) : (nI a &&& 48 = 48) ↔ (prot a && nmc a) = true := by
  have key : ∀ a, a < 512 → (decide (nI a &&& 48 = 48) = (decide (a / 32 % 2 = 1) && decide (a / 16 % 2 = 1))) := by decide +kernel
  have := key a h
  unfold prot nmc
  rw [← this, decide_eq_true_iff]
def mdf (z : Nat) (s : Nat → Nat) (k : Nat) : Nat → Nat := match hm z s k with
  | some h => upN s h (s h ||| 1)
  | none => s
def beh (z : Nat) (s : Nat → Nat) (k : Nat) : Nat := if atb s ((k + 1) % z) = true then (if (prot (s ((k + 1) % z)) && nmc (s ((k + 1) % z))) = true then tabF z s ((k + 1) % z) else ((k + 1) % z + 1) % z) else (k + 1) % z
section P14
variable {z n : Nat} {f : Nat → Int32} {s : Nat → Nat} {k : Nat}
theorem beh_lt (hz : 0 < z) : beh z s k < z := by
  unfold beh
  split
  · split
    · exact tabF_lt hz
    · exact Nat.mod_lt _ hz
  · exact Nat.mod_lt _ hz
theorem or1_lt {a : Nat} (h : a < 512) : a ||| 1 < 512 := by
  have key : ∀ a, a < 512 → a ||| 1 < 512 := by decide +kernel
  exact key a h
theorem c_mdf (hz : 0 < z) (hn : z ≤ n) (hn2 : n ≤ 5676) (hS : SCR z f s) (hk : k < z) :
    ∃ g, f_X3_markModified (nI z) (nI (cnt s 0 z)) n f (nI k) = some (nI (cnt (mdf z s k) 0 z), g) ∧ SCR z g (mdf z s k) := by
  rw [c_markModified hz hn hn2 hS hk]
  unfold mdf
  cases e : hm z s k with
  | none => exact ⟨f, rfl, hS⟩
  | some h => exact ⟨_, rfl, hS.upd (or1_lt (hS h (hm_lt hz e).1).2)⟩
theorem r_mdf (hz : 0 < z) (hz2 : z ≤ 5676) (hS : SCR z f s) (hk : k < z) : ∃ g, f_X6_modify (nI z) f (nI k) = some g ∧ SCR z g (mdf z s k) := by
  rw [r_modify hz hz2 hS hk]
  unfold mdf
  cases e : hm z s k with
  | none => exact ⟨f, rfl, hS⟩
  | some h => exact ⟨_, rfl, hS.upd (or1_lt (hS h (hm_lt hz e).1).2)⟩
theorem c_beh (hz : 0 < z) (hn : z ≤ n) (hn2 : n ≤ 5676) (hS : SCR z f s) (hk : k < z) : f_X2_placeBehindTyped (nI z) n f (nI k) = some (nI (beh z s k)) := by
  have hp : (k + 1) % z < z := Nat.mod_lt _ hz
  unfold f_X2_placeBehindTyped beh
  rw [c_after (by omega) hk, c_get hn hn2 hS hp, ifA' (hS _ hp).2, c_after (by omega) hp]
  simp only [some_bind]
  rw [c_nextTabStop hz hn hn2 hS hp]
  show (if atb s ((k + 1) % z) = true then _ else _) = _
  by_cases h : atb s ((k + 1) % z) = true
  · rw [if_pos h, if_pos h]
    by_cases h2 : (prot (s ((k + 1) % z)) && nmc (s ((k + 1) % z))) = true
    · rw [if_pos h2, if_pos ((and48 (hS _ hp).2).mpr h2)]
    · rw [if_neg h2, if_neg (fun q => h2 ((and48 (hS _ hp).2).mp q))]
  · rw [if_neg h, if_neg h]
theorem r_typed (hz : 0 < z) (hz2 : z ≤ 5676) (hS : SCR z f s) (hk : k < z) {x : Nat} (hx : x < 512) (ins lk : Bool) (th : Int32) :
    ∃ g, f_X6_type_L114 (nI z) ins (nI x) (nI k) lk th f = some (1, nI (beh z (mdf z (upN s k x) k) k), lk, th, g) ∧ SCR z g (mdf z (upN s k x) k) := by
  have hp : (k + 1) % z < z := Nat.mod_lt _ hz
  obtain ⟨g, h1, h2⟩ := r_mdf hz hz2 (hS.upd (k := k) hx) hk
  refine ⟨g, ?_, h2⟩
  generalize mdf z (upN s k x) k = t at h2
  unfold f_X6_type_L114 beh
  rw [if_neg (cl_in (by omega)), nI_clamp (by omega), h1]
  simp only [Option.bind_some]
  rw [nI_1, rndA hz hz2 (by omega)]
  simp only [Option.bind_some]
  rw [r_isAtt hz2 h2 hp]
  simp only [Option.bind_some, ifb]
  rw [if_neg (cl_in (by omega)), nI_clamp (by omega), nI_1, rndA hz hz2 (by omega), r_tab hz hz2 h2 hp, (h2 _ hp).1]
  simp only [Option.bind_some]
  have hb := (h2 _ hp).2
  by_cases h : atb t ((k + 1) % z) = true
  · rw [if_pos h, if_pos h]
    by_cases q1 : prot (t ((k + 1) % z)) = false
    · rw [if_pos ((and32 hb).mpr q1), if_neg (by rw [q1]; exact Bool.false_ne_true)]
    · rw [if_neg (fun q => q1 ((and32 hb).mp q))]
      have q1' : prot (t ((k + 1) % z)) = true := by simpa using q1
      by_cases q2 : nmc (t ((k + 1) % z)) = false
      · rw [if_pos ((and16 hb).mpr q2), if_neg (by rw [q2, q1']; decide)]
      · rw [if_neg (fun q => q2 ((and16 hb).mp q))]
        have q2' : nmc (t ((k + 1) % z)) = true := by simpa using q2
        rw [if_pos (by rw [q1', q2']; rfl)]
  · rw [if_neg h, if_neg h]
end P14
