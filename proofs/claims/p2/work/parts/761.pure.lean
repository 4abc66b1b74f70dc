/-! The orders of a stream, both sides at once. -/
section ORD
variable {z n : Nat} {f g : Nat → Int32} {sc : Nat → Nat} {gl gn : Nat} {gb st : Nat → Int32} {sb : Nat → Nat}
theorem ff_app1 {p : Nat → Bool} : ∀ (m i : Nat), ff p i (m + 1) = match ff p i m with
    | some k => some k
    | none => if p (i + m) = true then some (i + m) else none := by
  intro m
  induction m with
  | zero => intro i; rfl
  | succ m ih =>
    intro i
    rw [show ff p i (m + 1 + 1) = if p i = true then some i else ff p (i + 1) (m + 1) from rfl, show ff p i (m + 1) = if p i = true then some i else ff p (i + 1) m from rfl]
    by_cases h : p i = true
    · rw [if_pos h, if_pos h]
    · rw [if_neg h, if_neg h, ih (i + 1), show i + 1 + m = i + (m + 1) by omega]
def opF (sc : Nat → Nat) (k : Nat) : Bool := atb sc k && opn (sc k)
def gof (z : Nat) (sc : Nat → Nat) (pl : Nat) : Nat := match ff (opF sc) pl (z - pl) with
  | some k => (k + 1) % z
  | none => 0
theorem eu_same (hz : 0 < z) (hn : z ≤ n) (hn2 : n ≤ 5676) (sj : Bool) (q1 q2 : Int32) : ∀ (fu i : Nat) (f g : Nat → Int32) (sc : Nat → Nat), z < fu + i → i ≤ z → SCR z f sc → SCR z g sc → ∃ sc' f' g', f_X1_emptyUpToAttribute_L5 (nI z) n q1 fu (nI i) (nI (cnt sc 0 z)) f = some (nI (cnt sc' 0 z), f') ∧ f_X6_goOnToField_L12 (nI z) sj fu (nI i) q2 g = f_X6_goOnToField_L46 (nI z) sj FU q2 q2 g' ∧ SCR z f' sc' ∧ SCR z g' sc' := by
  intro fu
  induction fu with
  | zero => intro i f g sc h1 h2; omega
  | succ fu ih =>
    intro i f g sc h1 h2 hS hS2
    rw [f_X1_emptyUpToAttribute_L5.eq_2, f_X6_goOnToField_L12.eq_2]
    rcases Nat.lt_or_ge i z with h | h
    · rw [if_neg (nI_ge h (by omega)), if_neg (nI_ge h (by omega)), c_get hn hn2 hS h, r_isAtt (by omega) hS2 h, Option.bind_some, ifb, nI_1]
      have hv := (hS i h).2
      rcases Nat.lt_or_ge (sc i) 256 with h3 | h3
      · have e : atb sc i = false := by unfold atb; exact decide_eq_false (by omega)
        rw [if_neg (show ¬ (256 : Int32) ≤ nI (sc i) from nI_ge (b := 256) h3 (by decide)), e, if_neg (by decide), if_neg (s_in (by omega)), nI_clamp (by omega), show (0 : Int32) = nI 0 from rfl, c_put hz hn hn2 hS h (by decide)]
        exact ih (i + 1) _ _ _ (by omega) (by omega) (hS.upd (by decide)) (hS2.upd (by decide))
      · have e : atb sc i = true := by unfold atb; exact decide_eq_true h3
        rw [if_pos (show (256 : Int32) ≤ nI (sc i) from (nI_leI (a := 256) (by decide) (by omega)).mpr h3), e, if_pos rfl]
        exact ⟨sc, f, g, rfl, rfl, hS, hS2⟩
    · rw [if_pos ((nI_leI (by omega) (by omega)).mpr h), if_pos ((nI_leI (by omega) (by omega)).mpr h)]
      exact ⟨sc, f, g, rfl, rfl, hS, hS2⟩
theorem c_tab23 (hz : 0 < z) (hn : z ≤ n) (hn2 : n ≤ 5676) (hS : SCR z f sc) (sj : Bool) {pl : Nat} (F : Int32) : ∀ (d fu : Nat) (v1 : Int32), d + 1 < fu → pl + d < z → f_X1_tab_L23 (nI z) n sj fu v1 (nI (pl + d)) F f (nI pl) = some (F, f, match ff (opF sc) pl (d + 1) with
    | some k => nI ((k + 1) % z)
    | none => v1) := by
  intro d
  induction d with
  | zero =>
    intro fu v1 h1 h2
    obtain ⟨fu, rfl⟩ : ∃ fu', fu = fu' + 1 + 1 := ⟨fu - 2, by omega⟩
    rw [f_X1_tab_L23.eq_2, if_neg (fun e => by have := (nI_ltI (by omega) (by omega)).mp e; omega), c_startsOpenField hz hn hn2 hS h2, ifb, c_after (by omega) h2]
    have hex : ∀ v, f_X1_tab_L23 (nI z) n sj (fu + 1) v (nI (pl + 0) + -1) F f (nI pl) = some (F, f, v) := fun v => by
      rw [f_X1_tab_L23.eq_2, if_pos]
      rcases Nat.eq_zero_or_pos pl with h0 | h0
      · subst h0; decide
      · rw [show pl + 0 = pl - 1 + 1 by omega, pk_m1, nI_ltI (by omega) (by omega)]; omega
    rw [hex, hex]
    show _ = some (F, f, match (if opF sc pl = true then some pl else none) with
      | some k => nI ((k + 1) % z)
      | none => v1)
    show (if opF sc pl = true then _ else _) = _
    by_cases h : opF sc pl = true
    · rw [if_pos h, if_pos h]
    · rw [if_neg h, if_neg h]
  | succ d ih =>
    intro fu v1 h1 h2
    obtain ⟨fu, rfl⟩ : ∃ fu', fu = fu' + 1 := ⟨fu - 1, by omega⟩
    rw [f_X1_tab_L23.eq_2, if_neg (fun e => by have := (nI_ltI (by omega) (by omega)).mp e; omega), c_startsOpenField hz hn hn2 hS h2, ifb, c_after (by omega) h2, show pl + (d + 1) = pl + d + 1 by omega, pk_m1, ih fu v1 (by omega) (by omega), ih fu _ (by omega) (by omega), ff_app1 (d + 1) pl]
    show (if opF sc (pl + d + 1) = true then _ else _) = _
    cases hff : ff (opF sc) pl (d + 1) with
    | some k =>
      dsimp only
      by_cases h : opF sc (pl + d + 1) = true
      · rw [if_pos h]
      · rw [if_neg h]
    | none =>
      dsimp only
      rw [show pl + (d + 1) = pl + d + 1 by omega]
      by_cases h : opF sc (pl + d + 1) = true
      · rw [if_pos h, if_pos h]
      · rw [if_neg h, if_neg h]
theorem r_go46 (hz : 0 < z) (hz2 : z ≤ 5676) (hS : SCR z g sc) (sj : Bool) (q : Int32) : ∀ (m i fu : Nat), m < fu → i + m = z → f_X6_goOnToField_L46 (nI z) sj fu (nI i) q g = some (match ff (opF sc) i m with
    | some k => nI ((k + 1) % z)
    | none => 0, g) := by
  intro m
  induction m with
  | zero =>
    intro i fu h1 h2
    obtain ⟨fu, rfl⟩ : ∃ fu', fu = fu' + 1 := ⟨fu - 1, by omega⟩
    rw [f_X6_goOnToField_L46.eq_2, if_pos ((nI_leI (by omega) (by omega)).mpr (by omega))]
    rfl
  | succ m ih =>
    intro i fu h1 h2
    obtain ⟨fu, rfl⟩ : ∃ fu', fu = fu' + 1 := ⟨fu - 1, by omega⟩
    have h : i < z := by omega
    obtain ⟨e1, e2⟩ := hS i h
    rw [f_X6_goOnToField_L46.eq_2, if_neg (nI_ge h (by omega)), r_isAtt hz2 hS h, Option.bind_some, ifb, if_neg (s_in (by omega)), nI_clamp (by omega), e1, nI_1, ih (i + 1) fu (by omega) (by omega), rndA hz hz2 (by omega), Option.bind_some, show ff (opF sc) i (m + 1) = if opF sc i = true then some i else ff (opF sc) (i + 1) m from rfl]
    unfold opF opn
    cases ha : atb sc i with
    | false => rfl
    | true =>
      rw [if_pos rfl]
      cases hp : prot (sc i) with
      | false => rw [if_pos ((and32 e2).mpr hp)]; rfl
      | true => rw [if_neg (fun e => by rw [(and32 e2).mp e] at hp; cases hp)]; rfl
theorem tab_same (hz : 0 < z) (hn : z ≤ n) (hn2 : n ≤ 5676) (hS : SCR z f sc) (hS2 : SCR z g sc) {pl : Nat} (hpl : pl < z) (sj : Bool) : ∃ sc' f' g' pl', pl' < z ∧ SCR z f' sc' ∧ SCR z g' sc' ∧ f_X1_tab (nI z) (nI (cnt sc 0 z)) n f (nI pl) sj = some (nI (cnt sc' 0 z), f', nI pl') ∧ f_X6_goOnToField (nI z) (nI pl) sj g = some (nI pl', g') := by
  have fin : ∀ (sc' : Nat → Nat) (f' g' : Nat → Int32), SCR z f' sc' → SCR z g' sc' → f_X1_tab_L23 (nI z) n sj FU 0 (nI z - 1) (nI (cnt sc' 0 z)) f' (nI pl) = some (nI (cnt sc' 0 z), f', nI (gof z sc' pl)) ∧ f_X6_goOnToField_L46 (nI z) sj FU (nI pl) (nI pl) g' = some (nI (gof z sc' pl), g') ∧ gof z sc' pl < z := fun sc' f' g' h1 h2 => by
    have e1 := c_tab23 hz hn hn2 h1 sj (pl := pl) (nI (cnt sc' 0 z)) (z - 1 - pl) FU 0 (by show z - 1 - pl + 1 < 100000; omega) (by omega)
    have e2 := r_go46 hz (by omega) h2 sj (nI pl) (z - pl) pl FU (by show z - pl < 100000; omega) (by omega)
    have e3 : nI z - 1 = nI (pl + (z - 1 - pl)) := by rw [show (1 : Int32) = nI 1 from rfl, pk_sub (by omega)]; congr 1; omega
    rw [e3, e1, e2, show z - 1 - pl + 1 = z - pl by omega]
    unfold gof
    cases ff (opF sc') pl (z - pl) with
    | some k => exact ⟨rfl, rfl, Nat.mod_lt _ hz⟩
    | none => exact ⟨rfl, rfl, hz⟩
  unfold f_X1_tab f_X6_goOnToField
  rw [ifb, ifb]
  cases sj with
  | false =>
    obtain ⟨h1, h2, h3⟩ := fin sc f g hS hS2
    rw [if_neg (by decide), if_neg (by decide)]
    exact ⟨sc, f, g, _, h3, hS, hS2, h1, h2⟩
  | true =>
    rw [if_pos rfl, if_pos rfl]
    unfold f_X1_emptyUpToAttribute
    obtain ⟨sc', f', g', h1, h2, h3, h4⟩ := eu_same hz hn hn2 true (nI pl) (nI pl) FU pl f g sc (by show z < 100000 + pl; omega) (by omega) hS hS2
    rw [h1, h2, Option.bind_some]
    obtain ⟨h5, h6, h7⟩ := fin sc' f' g' h3 h4
    exact ⟨sc', f', g', _, h7, h3, h4, h5, h6⟩
theorem eo_SA {k : Nat} : ∀ (m i : Nat) (s : Nat → Nat), SA z s sc → SA z (itr (fun i s => if mbt z sc ((k + i) % z) = true then upN s ((k + i) % z) 0 else s) i m s) sc := by
  intro m
  induction m with
  | zero => intro i s h; exact h
  | succ m ih =>
    intro i s h
    refine ih (i + 1) _ ?_
    dsimp only
    by_cases hb : mbt z sc ((k + i) % z) = true
    · rw [if_pos hb]; exact h.up0 (mbt_atb hb)
    · rw [if_neg hb]; exact h
theorem eo_cnt {k m : Nat} : cnt (eoN z sc k m) 0 z = cnt sc 0 z := cnt_congr (fun j _ hj => (eo_SA m 0 sc SA.refl j (by omega)).1)
theorem r_repLoop (hz : 0 < z) (hz2 : z ≤ 5676) {k v m : Nat} (hk : k < z) (hm : m ≤ 6000) (sl : Int32) (st : Nat → Int32) (to a : Int32) (b : Bool) : f_X6_repeat_L72 (nI z) sl st FU to (nI v) (nI m) 0 a (nI k) b g = some (a, to, b, flF z k (nI v) m g) := by
  unfold flF
  have key : ∀ fu i g, i ≤ m → m - i < fu → f_X6_repeat_L72 (nI z) sl st fu to (nI v) (nI m) (nI i) a (nI ((k + i) % z)) b g = some (a, to, b, itr (fun i g => upd g ((k + i) % z) (nI v)) i (m - i) g) := by
    intro fu
    induction fu with
    | zero => intro i g _ h; omega
    | succ fu ih =>
      intro i g hi hf
      rw [f_X6_repeat_L72.eq_2]
      by_cases e : i = m
      · subst e
        rw [if_pos (nI_le (Nat.le_refl _) (by omega)), Nat.sub_self]
        rfl
      · rw [if_neg (nI_ge (show i < m by omega) (by omega)), r_put hz hz2 (Nat.mod_lt _ hz), Option.bind_some, nI_1, show m - i = m - (i + 1) + 1 by omega]
        have := ih (i + 1) (upd g ((k + i) % z) (nI v)) (by omega) (by omega)
        rw [show (k + (i + 1)) % z = ((k + i) % z + 1) % z by rw [Nat.mod_add_mod]; rfl] at this
        exact this
  have := key FU 0 g (by omega) (by show m - 0 < 100000; omega)
  rw [Nat.add_zero, Nat.mod_eq_of_lt hk] at this
  exact this
def stp (z pl k : Nat) : Nat := if k ≤ pl then k + z - pl else k - pl
theorem c_steps {pl k : Nat} (hz2 : z ≤ 5676) (hk : k < z) (hpl : pl < z) : f_X3_stepsTo (nI z) (nI pl) (nI k) = nI (stp z pl k) := by
  unfold f_X3_stepsTo stp
  rcases Nat.lt_or_ge pl k with h | h
  · rw [if_neg (nI_ge h (by omega)), if_neg (by omega), pk_sub (by omega)]
  · rw [if_pos ((nI_leI (by omega) (by omega)).mpr h), if_pos h]
    have e : nI k - nI pl + nI z = nI k + nI z - nI pl := by
      rw [Int32.sub_eq_add_neg, Int32.sub_eq_add_neg, Int32.add_assoc, Int32.add_comm (-nI pl), ← Int32.add_assoc]
    rw [e, nI_add, pk_sub (by omega)]
theorem r_steps {pl k : Nat} (hz : 0 < z) (hz2 : z ≤ 5676) (hk : k < z) (hpl : pl < z) : ∃ d, f_X6_round (nI z) (nI k - nI pl) = some (nI d) ∧ (d = 0 → stp z pl k = z) ∧ (d ≠ 0 → stp z pl k = d) ∧ d < z := by
  refine ⟨(k + z - pl) % z, rndS hz hz2 (by omega) (by omega), ?_, ?_, Nat.mod_lt _ hz⟩
  · intro h
    unfold stp
    rcases Nat.lt_or_ge pl k with h1 | h1
    · rw [show k + z - pl = k - pl + z by omega, Nat.add_mod_right, Nat.mod_eq_of_lt (by omega)] at h
      omega
    · rw [if_pos h1]
      rcases Nat.eq_or_lt_of_le h1 with h2 | h2
      · omega
      · rw [Nat.mod_eq_of_lt (by omega)] at h
        omega
  · intro h
    unfold stp
    rcases Nat.lt_or_ge pl k with h1 | h1
    · rw [if_neg (by omega), show k + z - pl = k - pl + z by omega, Nat.add_mod_right, Nat.mod_eq_of_lt (by omega)]
    · rw [if_pos h1]
      rcases Nat.eq_or_lt_of_le h1 with h2 | h2
      · exfalso; apply h; rw [show k + z - pl = z by omega, Nat.mod_self]
      · rw [Nat.mod_eq_of_lt (by omega)]
theorem stp_le {pl k : Nat} (hk : k < z) (hpl : pl < z) : stp z pl k ≤ z := by
  unfold stp
  split <;> omega
end ORD
