/-! Typing, both sides. -/
def dig (x : Nat) : Bool := (decide (240 ≤ x) && decide (x ≤ 249)) || (decide (x = 75) || decide (x = 96))
def tkn (z : Nat) (s : Nat → Nat) (k x : Nat) : Bool := mbt z s k && (!nmc (atOf z s k) || dig x)
def tyN (z : Nat) (s : Nat → Nat) (k x : Nat) (lk ins : Bool) : Int32 × (Nat → Nat) × Nat × Bool :=
  if lk = true then (0, s, k, true) else
  if tkn z s k x = true then
    if ins = true then
      match mrE z s k with
      | none => (0, s, k, true)
      | some e => (1, mdf z (upN (mkR z s k e 0) k x) k, beh z (mdf z (upN (mkR z s k e 0) k x) k) k, false)
    else (1, mdf z (upN s k x) k, beh z (mdf z (upN s k x) k) k, false)
  else (0, s, k, true)
theorem x240 {x : Nat} (h : x < 255) : (nI x < 240) ↔ x < 240 := by
  have key : ∀ x, x < 255 → (decide (nI x < 240) = decide (x < 240)) := by decide +kernel
  exact decide_eq_decide.mp (key x h)
theorem x249 {x : Nat} (h : x < 255) : (nI x ≤ 249) ↔ x ≤ 249 := by
  have key : ∀ x, x < 255 → (decide (nI x ≤ 249) = decide (x ≤ 249)) := by decide +kernel
  exact decide_eq_decide.mp (key x h)
theorem x75 {x : Nat} (h : x < 255) : (nI x = 75) ↔ x = 75 := by
  have key : ∀ x, x < 255 → (decide (nI x = 75) = decide (x = 75)) := by decide +kernel
  exact decide_eq_decide.mp (key x h)
theorem x96 {x : Nat} (h : x < 255) : (nI x = 96) ↔ x = 96 := by
  have key : ∀ x, x < 255 → (decide (nI x = 96) = decide (x = 96)) := by decide +kernel
  exact decide_eq_decide.mp (key x h)
theorem digs {α : Type} {x : Nat} (h : x < 255) (F : Bool → α) : (if nI x < 240 then (if nI x = 75 then F true else if nI x = 96 then F true else F false) else if nI x ≤ 249 then F true else if nI x = 75 then F true else if nI x = 96 then F true else F false) = F (dig x) := by
  simp only [x240 h, x249 h, x75 h, x96 h]
  by_cases h1 : x < 240
  · rw [if_pos h1]
    by_cases h2 : x = 75
    · rw [if_pos h2, h2]; rfl
    · rw [if_neg h2]
      by_cases h3 : x = 96
      · rw [if_pos h3, h3]; rfl
      · rw [if_neg h3, show dig x = false by unfold dig; simp [h2, h3]; omega]
  · rw [if_neg h1]
    by_cases h2 : x ≤ 249
    · rw [if_pos h2, show dig x = true by unfold dig; simp; omega]
    · rw [if_neg h2, if_neg (by omega), if_neg (by omega), show dig x = false by unfold dig; simp; omega]
section P15
variable {z n : Nat} {f : Nat → Int32} {s : Nat → Nat} {k x : Nat}
theorem c_takes39 (a b : Int32) (m : Nat) (g : Nat → Int32) (hx : x < 255) (t : Bool) : f_X2_takes_L39 a b m g (nI x) t = some (!t || dig x) := by
  unfold f_X2_takes_L39
  rw [ifb, digs hx (fun b => some b)]
  cases t <;> rfl
theorem atOf_none (h : hm z s k = none) : nmc (atOf z s k) = false := by
  unfold atOf
  rw [h]
  show nmc 0 = false
  decide
theorem atOf_lt (hz : 0 < z) (hS : ∀ j, j < z → s j < 512) : atOf z s k < 512 := by
  unfold atOf
  cases e : hm z s k with
  | none => show (0 : Nat) < 512; omega
  | some h => have := hS h (hm_lt hz e).1; show s h - 256 < 512; omega
theorem c_takes (hz : 0 < z) (hn : z ≤ n) (hn2 : n ≤ 5676) (hS : SCR z f s) (hk : k < z) (hx : x < 255) : f_X2_takes (nI z) (nI (cnt s 0 z)) n f (nI k) (nI x) = some (tkn z s k x) := by
  have hb := atOf_lt (k := k) hz (fun j hj => (hS j hj).2)
  unfold f_X2_takes tkn
  rw [c_mayBeTypedIn hz hn hn2 hS hk]
  simp only [Option.bind_some, ifb]
  cases hm1 : mbt z s k
  · rfl
  · rw [if_pos rfl, c_attributeOver hz hn hn2 hS hk, c_takes39 _ _ _ _ hx, c_takes39 _ _ _ _ hx]
    simp only [Option.bind_some]
    by_cases h : hm z s k = none
    · rw [if_pos h, if_pos rfl, atOf_none h]
      rfl
    · rw [if_neg h, if_neg (fun q => by
        have h5 : nI (atOf z s k) < 0 := by rw [q]; decide
        exact cl_in (k := atOf z s k) (by omega) (Or.inl h5))]
      by_cases h2 : nmc (atOf z s k) = false
      · rw [if_pos ((and16 hb).mpr h2), h2]
        rfl
      · rw [if_neg (fun q => h2 ((and16 hb).mp q))]
        have h3 : nmc (atOf z s k) = true := by simpa using h2
        rw [h3]
        rfl
theorem r_type60 (hz : 0 < z) (hz2 : z ≤ 5676) (hS : SCR z f s) (hk : k < z) (hx : x < 255) (ins : Bool) (th : Int32) :
    ∃ g, f_X6_type_L60 (nI z) ins (nI x) (dig x) (nI k) false th f = some ((tyN z s k x false ins).1, nI (tyN z s k x false ins).2.2.1, (tyN z s k x false ins).2.2.2, th, g) ∧ SCR z g (tyN z s k x false ins).2.1 := by
  have hb := atOf_lt (k := k) hz (fun j hj => (hS j hj).2)
  have hgo : ∃ g, (if ins = true then Option.bind (f_X6_makeRoom (nI z) (nI k) f) (fun (r_21, m_screen_21) =>
      if r_21 = true then f_X6_type_L114 (nI z) ins (nI x) (nI k) false th m_screen_21 else thn (f_X6_refuse false) (fun (r_23, m_locked_23) => some (r_23, nI k, m_locked_23, th, m_screen_21)))
      else f_X6_type_L114 (nI z) ins (nI x) (nI k) false th f) = some ((if ins = true then
      match mrE z s k with
      | none => ((0 : Int32), s, k, true)
      | some e => (1, mdf z (upN (mkR z s k e 0) k x) k, beh z (mdf z (upN (mkR z s k e 0) k x) k) k, false)
    else (1, mdf z (upN s k x) k, beh z (mdf z (upN s k x) k) k, false)).1, nI (if ins = true then
      match mrE z s k with
      | none => ((0 : Int32), s, k, true)
      | some e => (1, mdf z (upN (mkR z s k e 0) k x) k, beh z (mdf z (upN (mkR z s k e 0) k x) k) k, false)
    else (1, mdf z (upN s k x) k, beh z (mdf z (upN s k x) k) k, false)).2.2.1, (if ins = true then
      match mrE z s k with
      | none => ((0 : Int32), s, k, true)
      | some e => (1, mdf z (upN (mkR z s k e 0) k x) k, beh z (mdf z (upN (mkR z s k e 0) k x) k) k, false)
    else (1, mdf z (upN s k x) k, beh z (mdf z (upN s k x) k) k, false)).2.2.2, th, g) ∧ SCR z g (if ins = true then
      match mrE z s k with
      | none => ((0 : Int32), s, k, true)
      | some e => (1, mdf z (upN (mkR z s k e 0) k x) k, beh z (mdf z (upN (mkR z s k e 0) k x) k) k, false)
    else (1, mdf z (upN s k x) k, beh z (mdf z (upN s k x) k) k, false)).2.1 := by
    cases ins with
    | false => exact r_typed hz hz2 hS hk (by omega) false false th
    | true =>
      cases he : mrE z s k with
      | none =>
        rw [if_pos rfl, if_pos rfl, r_makeRoom_none hz hz2 hS hk he]
        exact ⟨f, rfl, hS⟩
      | some e =>
        obtain ⟨g, h1, h2⟩ := r_makeRoom_some hz hz2 hS hk he
        rw [if_pos rfl, if_pos rfl, h1]
        exact r_typed hz hz2 h2 hk (by omega) true false th
  unfold f_X6_type_L60 tyN
  rw [if_neg Bool.false_ne_true, r_mayBeTyped hz hz2 hS hk]
  simp only [Option.bind_some, ifb]
  unfold tkn
  cases hm1 : mbt z s k
  · exact ⟨f, rfl, hS⟩
  · rw [if_pos rfl, r_attributeOf hz hz2 hS hk]
    simp only [Option.bind_some]
    by_cases h2 : nmc (atOf z s k) = false
    · rw [if_pos ((and16 hb).mpr h2), h2]
      exact hgo
    · rw [if_neg (fun q => h2 ((and16 hb).mp q))]
      have h3 : nmc (atOf z s k) = true := by simpa using h2
      rw [h3]
      cases hd : dig x
      · exact ⟨f, rfl, hS⟩
      · exact hgo
theorem upN_2 {t : Nat → Nat} {v : Nat} : upN (upN t k v) k x = upN t k x := by
  funext j
  by_cases e : j = k
  · subst e; rw [upN_s, upN_s]
  · rw [upN_n e, upN_n e, upN_n e]
theorem c_typed (hz : 0 < z) (hn : z ≤ n) (hn2 : n ≤ 5676) (hS : SCR z f s) (hk : k < z) (hx : x < 512) (lk : Bool) :
    ∃ g, thn (f_X3_put (nI (cnt s 0 z)) n f (nI k) (nI x)) (fun (s_fields_7, s_cells_7) =>
    Option.bind (f_X3_markModified (nI z) s_fields_7 n s_cells_7 (nI k)) (fun (s_fields_8, s_cells_8) =>
    Option.bind (f_X2_placeBehindTyped (nI z) n s_cells_8 (nI k)) (fun r_9 =>
    some ((1 : Int32), s_fields_8, r_9, s_cells_8, lk)))) = some (1, nI (cnt (mdf z (upN s k x) k) 0 z), nI (beh z (mdf z (upN s k x) k) k), g, lk) ∧ SCR z g (mdf z (upN s k x) k) := by
  obtain ⟨g, h1, h2⟩ := c_mdf hz hn hn2 (hS.upd (k := k) hx) hk
  refine ⟨g, ?_, h2⟩
  rw [c_put hz hn hn2 hS hk hx]
  show Option.bind (f_X3_markModified (nI z) (nI (cnt (upN s k x) 0 z)) n (upd f k (nI x)) (nI k)) _ = _
  rw [h1]
  show Option.bind (f_X2_placeBehindTyped (nI z) n g (nI k)) _ = _
  rw [c_beh hz hn hn2 h2 hk]
  rfl
theorem c_enter (hz : 0 < z) (hn : z ≤ n) (hn2 : n ≤ 5676) (hS : SCR z f s) (hk : k < z) (hx1 : 64 ≤ x) (hx : x < 255) (lk ins : Bool) :
    ∃ g, f_X2_enter (nI z) (nI (cnt s 0 z)) (nI k) n f lk ins (nI x) = some ((tyN z s k x lk ins).1, nI (cnt (tyN z s k x lk ins).2.1 0 z), nI (tyN z s k x lk ins).2.2.1, g, (tyN z s k x lk ins).2.2.2) ∧ SCR z g (tyN z s k x lk ins).2.1 := by
  unfold f_X2_enter tyN
  rw [if_neg (show ¬ nI x < (64 : Int32) from Int32.not_lt.mpr (nI_le (a := 64) hx1 (by omega))), if_pos (show nI x ≤ (254 : Int32) from nI_le (b := 254) (by omega) (by omega)), c_takes hz hn hn2 hS hk hx]
  simp only [Option.bind_some, ifb]
  cases lk with
  | true => exact ⟨f, rfl, hS⟩
  | false =>
    rw [if_neg Bool.false_ne_true, if_neg Bool.false_ne_true]
    cases tkn z s k x with
    | false => exact ⟨f, rfl, hS⟩
    | true =>
      rw [if_pos rfl, if_pos rfl]
      cases ins with
      | false => exact c_typed hz hn hn2 hS hk (by omega) false
      | true =>
        rw [if_pos rfl, if_pos rfl]
        cases he : mrE z s k with
        | none =>
          rw [c_makeRoom_none hz hn hn2 hS hk he]
          exact ⟨f, rfl, hS⟩
        | some e =>
          obtain ⟨g, h1, h2⟩ := c_makeRoom_some hz hn hn2 hS hk he
          have h7 := mrE_lt he
          have h3 := h2.congr (fun j hj => mk_same hk hj)
          have hc : cnt s 0 z = cnt (upN (mkR z s k e 0) k 0) 0 z := cnt_congr (fun j _ hj => by
            rw [← mkC_atb hz hk (i := e + 1) (by omega) (show j < z by omega)]
            unfold atb
            rw [mk_same hk (by omega)])
          have h4 := c_typed hz hn hn2 h3 hk (show x < 512 by omega) false
          rw [upN_2, ← hc] at h4
          rw [h1]
          exact h4
end P15
