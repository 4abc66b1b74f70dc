/-! Removing a sign, erasing to the end of a field. -/
theorem nI_s1 {x : Nat} (h : 0 < x) : nI x - 1 = nI (x - 1) := by
  obtain ⟨y, rfl⟩ : ∃ y, x = y + 1 := ⟨x - 1, by omega⟩
  rw [nI_prd']
  rfl
theorem nI_sb {a b : Nat} (h : b ≤ a) : nI a - nI b = nI (a - b) := by
  rw [sub_iI, nI_iI]
  congr 1
  omega
theorem nI_md {a b : Nat} (ha : a < 2147483648) (hb : b < 2147483648) : nI a - nI a / nI b * nI b = nI (a % b) := by
  rw [nI_iI a, nI_iI b, iI_tmod (by omega) (by omega) hb, nI_iI]
  congr 1
theorem row_end {z c k : Nat} (hc : 0 < c) (hzc : c ∣ z) (hk : k < z) : k + (c - k % c) ≤ z := by
  obtain ⟨r, rfl⟩ := hzc
  have h1 := Nat.div_add_mod k c
  have h2 : k / c < r := (Nat.div_lt_iff_lt_mul hc).mpr (by rw [Nat.mul_comm]; exact hk)
  have h3 : c * (k / c + 1) ≤ c * r := Nat.mul_le_mul_left c h2
  have h4 := Nat.mod_lt k hc
  rw [Nat.mul_add, Nat.mul_one] at h3
  omega
def rmP (sc : Nat → Nat) (k m i j : Nat) : Nat := if k ≤ j ∧ j < k + i then (if j + 1 = k + m then 0 else sc (j + 1)) else sc j
def mrm (z c : Nat) (sc : Nat → Nat) (k : Nat) : Nat := if toE z sc k ≤ c - k % c then toE z sc k else c - k % c
theorem rmP_0 {sc : Nat → Nat} {k m : Nat} : rmP sc k m 0 = sc := by
  funext j
  unfold rmP
  rw [if_neg (by omega)]
theorem rmP_at {sc : Nat → Nat} {k m i j : Nat} (h : k + i ≤ j) : rmP sc k m i j = sc j := by
  unfold rmP
  rw [if_neg (by omega)]
theorem rmP_up {sc : Nat → Nat} {k m i : Nat} : upN (rmP sc k m i) (k + i) (if i + 1 = m then 0 else sc (k + i + 1)) = rmP sc k m (i + 1) := by
  funext j
  by_cases e : j = k + i
  · subst e
    rw [upN_s]
    unfold rmP
    rw [if_pos (show k ≤ k + i ∧ k + i < k + (i + 1) by omega)]
    by_cases h : i + 1 = m
    · rw [if_pos h, if_pos (show k + i + 1 = k + m by omega)]
    · rw [if_neg h, if_neg (show ¬ k + i + 1 = k + m by omega)]
  · rw [upN_n e]
    unfold rmP
    by_cases h : k ≤ j ∧ j < k + i
    · rw [if_pos h, if_pos (show k ≤ j ∧ j < k + (i + 1) by omega)]
    · rw [if_neg h, if_neg (show ¬ (k ≤ j ∧ j < k + (i + 1)) by omega)]
theorem rmP_atb {sc : Nat → Nat} {k m i : Nat} (hA : ∀ i, i < m → atb sc (k + i) = false) (hi : i ≤ m) (j : Nat) : atb (rmP sc k m i) j = atb sc j := by
  show decide (256 ≤ rmP sc k m i j) = _
  unfold rmP
  by_cases h : k ≤ j ∧ j < k + i
  · have e := hA (j - k) (by omega)
    rw [show k + (j - k) = j by omega] at e
    rw [if_pos h, e]
    by_cases h2 : j + 1 = k + m
    · rw [if_pos h2]; decide
    · rw [if_neg h2]
      have e2 := hA (j + 1 - k) (by omega)
      rw [show k + (j + 1 - k) = j + 1 by omega] at e2
      exact e2
  · rw [if_neg h]
    rfl
theorem toE_atb {z : Nat} {sc : Nat → Nat} {k : Nat} (hz : 0 < z) (hk : k < z) : ∀ i, i < toE z sc k → atb sc ((k + i) % z) = false := by
  intro i hi
  unfold toE at hi
  cases e : nxt z sc k with
  | none =>
    rw [e] at hi
    have hi : i < z - k := hi
    exact ff_none e i (Nat.zero_le _) (by omega)
  | some m =>
    rw [e] at hi
    exact (ff_some e).2.2.2 i (Nat.zero_le _) hi
theorem toE_le {z : Nat} {sc : Nat → Nat} {k : Nat} : toE z sc k ≤ z := by
  unfold toE
  cases e : nxt z sc k with
  | none => show z - k ≤ z; omega
  | some m => have := ff_some e; show m ≤ z; omega
theorem toE_pos {z : Nat} {sc : Nat → Nat} {k : Nat} (hk : k < z) (h : atb sc k = false) : 0 < toE z sc k := by
  unfold toE
  cases e : nxt z sc k with
  | none => show 0 < z - k; omega
  | some m =>
    show 0 < m
    rcases Nat.eq_zero_or_pos m with h0 | h0
    · subst h0
      have := (ff_some e).2.2.1
      simp only [Nat.add_zero, Nat.mod_eq_of_lt hk] at this
      rw [h] at this
      cases this
    · exact h0
section P9
variable {z n c : Nat} {f : Nat → Int32} {sc : Nat → Nat} {k : Nat}
theorem mrm_ok (hz : 0 < z) (hc : 0 < c) (hzc : c ∣ z) (hk : k < z) (ha : atb sc k = false) : 0 < mrm z c sc k ∧ k + mrm z c sc k ≤ z ∧ ∀ i, i < mrm z c sc k → atb sc (k + i) = false := by
  have h1 := row_end hc hzc hk
  have h2 := toE_pos hk ha
  have h3 := Nat.mod_lt k hc
  have h4 : mrm z c sc k ≤ toE z sc k ∧ mrm z c sc k ≤ c - k % c ∧ 0 < mrm z c sc k := by
    unfold mrm
    by_cases h : toE z sc k ≤ c - k % c
    · rw [if_pos h]; omega
    · rw [if_neg h]; omega
  refine ⟨h4.2.2, by omega, fun i hi => ?_⟩
  have := toE_atb (sc := sc) hz hk i (by omega)
  rw [Nat.mod_eq_of_lt (by omega)] at this
  exact this
theorem c_removeL (hz : 0 < z) (hn : z ≤ n) (hn2 : n ≤ 5676) (hS : SCR z f sc) (cc : Int32) {M : Nat} (hM : k + (M + 1) ≤ z) (hA : ∀ i, i < M + 1 → atb sc (k + i) = false) :
    ∃ g, f_X3_remove_L33 cc (nI z) n FU (nI M) (nI k) 0 (nI (cnt sc 0 z)) f = some (nI (cnt sc 0 z), g) ∧ SCR z g (rmP sc k (M + 1) (M + 1)) := by
  have hcn : ∀ i, i ≤ M + 1 → cnt (rmP sc k (M + 1) i) 0 z = cnt sc 0 z := fun i hi => cnt_congr (fun j _ _ => rmP_atb hA hi j)
  have key : ∀ fu i g, i ≤ M → M - i < fu → SCR z g (rmP sc k (M + 1) i) →
      ∃ g', f_X3_remove_L33 cc (nI z) n fu (nI M) (nI (k + i)) (nI i) (nI (cnt sc 0 z)) g = some (nI (cnt sc 0 z), g') ∧ SCR z g' (rmP sc k (M + 1) (M + 1)) := by
    intro fu
    induction fu with
    | zero => intro i g _ h; omega
    | succ fu ih =>
      intro i g hi hf hg
      rw [f_X3_remove_L33.eq_2]
      by_cases e : i = M
      · rw [e] at hg
        rw [e, if_pos (nI_le (Nat.le_refl _) (by omega))]
        have e6 := c_put (k := k + M) (v := 0) hz hn hn2 hg (by omega) (by omega)
        have hup := rmP_up (sc := sc) (k := k) (m := M + 1) (i := M)
        rw [if_pos rfl] at hup
        rw [hup, hcn _ (Nat.le_refl _), hcn _ (by omega), nI_0] at e6
        rw [e6]
        have hg2 := hg.upd (k := k + M) (v := 0) (by omega)
        rw [hup, nI_0] at hg2
        exact ⟨_, rfl, hg2⟩
      · rw [if_neg (nI_ge (by omega) (by omega)), nI_1, nI_1, c_get hn hn2 hg (by omega), rmP_at (by omega)]
        have hv : sc (k + i + 1) < 512 := by have := (hg (k + i + 1) (by omega)).2; rw [rmP_at (by omega)] at this; exact this
        have e6 := c_put (k := k + i) (v := sc (k + i + 1)) hz hn hn2 hg (by omega) hv
        have hup := rmP_up (sc := sc) (k := k) (m := M + 1) (i := i)
        rw [if_neg (by omega)] at hup
        rw [hup, hcn _ (by omega), hcn _ (by omega)] at e6
        rw [e6]
        have hg2 := hg.upd (k := k + i) (v := sc (k + i + 1)) hv
        rw [hup] at hg2
        exact ih (i + 1) _ (by omega) (by omega) hg2
  have h := key FU 0 f (Nat.zero_le _) (FU_big (by omega)) (by rw [rmP_0]; exact hS)
  rw [Nat.add_zero, nI_0] at h
  exact h
theorem c_remove (hz : 0 < z) (hn : z ≤ n) (hn2 : n ≤ 5676) (hS : SCR z f sc) (hc : 0 < c) (hzc : c ∣ z) (hk : k < z) (ha : atb sc k = false) :
    ∃ g, f_X3_remove (nI c) (nI z) (nI (cnt sc 0 z)) n f (nI k) = some (nI (cnt sc 0 z), g) ∧ SCR z g (rmP sc k (mrm z c sc k) (mrm z c sc k)) := by
  have hcz := Nat.le_of_dvd hz hzc
  have h3 := Nat.mod_lt k hc
  have h4 := Nat.mod_le k c
  have h5 := toE_pos hk ha
  have h6 := toE_le (z := z) (sc := sc) (k := k)
  have h7 := row_end hc hzc hk
  obtain ⟨m1, m2, m3⟩ := mrm_ok hz hc hzc hk ha
  unfold f_X3_remove f_X3_startOfRow
  rw [if_pos (show (1 : Int32) ≤ nI c from nI_le (a := 1) hc (by omega)), if_neg (nI_ne0 hc (by omega)), nI_md (by omega) (by omega), nI_sb h4]
  simp only [Option.bind_some]
  rw [c_toEnd hz hn hn2 hS hk]
  simp only [Option.bind_some]
  rw [nI_add, nI_s1 (by omega), nI_sb (by omega), nI_s1 h5]
  have e : (if nI (k - k % c + c - 1 - k) < nI (toE z sc k - 1) then nI (k - k % c + c - 1 - k) else nI (toE z sc k - 1)) = nI (mrm z c sc k - 1) := by
    unfold mrm
    by_cases h : toE z sc k ≤ c - k % c
    · rw [if_pos h, if_neg (Int32.not_lt.mpr (nI_le (by omega) (by omega)))]
    · rw [if_neg h, if_pos (nI_lt (by omega) (by omega))]
      congr 1
      omega
  rw [e]
  obtain ⟨M, hM⟩ : ∃ M, mrm z c sc k = M + 1 := ⟨mrm z c sc k - 1, by omega⟩
  rw [hM] at m2 m3 ⊢
  exact c_removeL hz hn hn2 hS (nI c) m2 m3
theorem r_removeL (hz2 : z ≤ 5676) (hS : SCR z f sc) (cc : Int32) (lk : Bool) {m : Nat} (hM : k + m ≤ z) :
    ∃ g, f_X6_deleteSign_L49 cc (nI z) (nI k) FU (nI m) 0 lk f = Option.bind (f_X6_modify (nI z) g (nI k)) (fun s => some (1, lk, s)) ∧ SCR z g (rmP sc k m m) := by
  have key : ∀ fu i g, i ≤ m → m - i < fu → SCR z g (rmP sc k m i) →
      ∃ g', f_X6_deleteSign_L49 cc (nI z) (nI k) fu (nI m) (nI i) lk g = Option.bind (f_X6_modify (nI z) g' (nI k)) (fun s => some (1, lk, s)) ∧ SCR z g' (rmP sc k m m) := by
    intro fu
    induction fu with
    | zero => intro i g _ h; omega
    | succ fu ih =>
      intro i g hi hf hg
      rw [f_X6_deleteSign_L49.eq_2]
      by_cases e : i = m
      · rw [e] at hg
        rw [e, if_pos (nI_le (Nat.le_refl _) (by omega))]
        exact ⟨g, rfl, hg⟩
      · rw [if_neg (nI_ge (by omega) (by omega)), nI_1, nI_add, nI_1]
        have hup := rmP_up (sc := sc) (k := k) (m := m) (i := i)
        by_cases h : i + 1 = m
        · rw [if_pos (nI_le (by omega) (by omega)), if_neg (cl_in (by omega)), nI_clamp (by omega)]
          rw [if_pos h] at hup
          have hg2 := hg.upd (k := k + i) (v := 0) (by omega)
          rw [hup, nI_0] at hg2
          exact ih (i + 1) _ (by omega) (by omega) hg2
        · rw [if_neg (nI_ge (by omega) (by omega)), if_neg (cl_in (by omega)), if_neg (cl_in (by omega)), nI_clamp (by omega), nI_clamp (by omega), (hg (k + i + 1) (by omega)).1, rmP_at (by omega)]
          rw [if_neg h] at hup
          have hv : sc (k + i + 1) < 512 := by have := (hg (k + i + 1) (by omega)).2; rw [rmP_at (by omega)] at this; exact this
          have hg2 := hg.upd (k := k + i) (v := sc (k + i + 1)) hv
          rw [hup] at hg2
          exact ih (i + 1) _ (by omega) (by omega) hg2
  have h := key FU 0 f (Nat.zero_le _) (FU_big (by omega)) (by rw [rmP_0]; exact hS)
  rw [nI_0] at h
  exact h
theorem r_deleteSign (hz : 0 < z) (hz2 : z ≤ 5676) (hS : SCR z f sc) (hc : 0 < c) (hzc : c ∣ z) (hk : k < z) (lk : Bool) (hb : mbt z sc k = true) :
    ∃ g, f_X6_deleteSign (nI c) (nI z) (nI k) lk f = Option.bind (f_X6_modify (nI z) g (nI k)) (fun s => some (1, lk, s)) ∧ SCR z g (rmP sc k (mrm z c sc k) (mrm z c sc k)) := by
  have ha := mbt_atb hb
  have hcz := Nat.le_of_dvd hz hzc
  have h3 := Nat.mod_lt k hc
  have h6 := toE_le (z := z) (sc := sc) (k := k)
  obtain ⟨m1, m2, m3⟩ := mrm_ok hz hc hzc hk ha
  unfold f_X6_deleteSign
  rw [r_mayBeTyped hz hz2 hS hk]
  simp only [Option.bind_some, ifb]
  rw [if_pos hb, r_toEnd hz hz2 hS hk]
  simp only [Option.bind_some]
  rw [if_neg (nI_ne0 hc (by omega)), nI_md (by omega) (by omega), nI_sb (by omega)]
  have := r_removeL hz2 hS (nI c) lk m2
  unfold mrm at this ⊢
  by_cases h : toE z sc k ≤ c - k % c
  · rw [if_pos h] at this ⊢
    rw [if_pos (nI_le h (by omega))]
    exact this
  · rw [if_neg h] at this ⊢
    rw [if_neg (nI_ge (by omega) (by omega))]
    exact this
theorem r_eraseToEnd (hz : 0 < z) (hz2 : z ≤ 5676) (hS : SCR z f sc) (hk : k < z) (lk : Bool) (hb : mbt z sc k = true) :
    f_X6_eraseToEnd (nI z) (nI k) lk f = Option.bind (f_X6_modify (nI z) (flF z k (nI 0) (toE z sc k) f) (nI k)) (fun s => some (1, lk, s)) := by
  have h6 := toE_le (z := z) (sc := sc) (k := k)
  unfold f_X6_eraseToEnd flF
  rw [r_mayBeTyped hz hz2 hS hk]
  simp only [Option.bind_some, ifb]
  rw [if_pos hb, r_toEnd hz hz2 hS hk]
  simp only [Option.bind_some]
  generalize toE z sc k = m at h6
  have key : ∀ fu i g, i ≤ m → m - i < fu →
      f_X6_eraseToEnd_L27 (nI z) (nI k) fu (nI m) (nI i) lk g = Option.bind (f_X6_modify (nI z) (itr (fun i g => upd g ((k + i) % z) (nI 0)) i (m - i) g) (nI k)) (fun s => some (1, lk, s)) := by
    intro fu
    induction fu with
    | zero => intro i g _ h; omega
    | succ fu ih =>
      intro i g hi hf
      rw [f_X6_eraseToEnd_L27.eq_2]
      by_cases e : i = m
      · subst e
        rw [if_pos (nI_le (Nat.le_refl _) (by omega)), Nat.sub_self]
        rfl
      · have hm' : (k + i) % z < z := Nat.mod_lt _ hz
        rw [if_neg (nI_ge (by omega) (by omega)), nI_1, nI_add, rndA hz hz2 (by omega)]
        simp only [Option.bind_some]
        rw [if_neg (cl_in (by omega)), nI_clamp (by omega)]
        obtain ⟨m', hmm⟩ : ∃ m', m - i = m' + 1 := ⟨m - i - 1, by omega⟩
        rw [hmm, ih (i + 1) _ (by omega) (by omega), show m - (i + 1) = m' by omega]
        show _ = Option.bind (f_X6_modify (nI z) (itr _ (i + 1) m' (upd g ((k + i) % z) (nI 0))) (nI k)) _
        rw [nI_0]
  have h := key FU 0 f (Nat.zero_le _) (FU_big (by omega))
  rw [nI_0, Nat.sub_zero] at h
  exact h
end P9
