/-! One order, both sides at once. -/
section OR2
variable {z n : Nat} {f g : Nat → Int32} {sc : Nat → Nat} {gl gn : Nat} {gb st : Nat → Int32} {sb : Nat → Nat}
theorem r_L242 (a b : Int32) (s1 : Bool) (t : Nat → Int32) (cu at_ pl : Int32) (od : Nat) (sC : Nat → Int32) : f_X6_order_L242 a b s1 t cu at_ pl (nI od) false sC = some (cu, at_, pl, nI (od + 1), false, sC) := by
  unfold f_X6_order_L242
  rw [if_pos (show b2i false = 0 from rfl), nI_1]
theorem r_L242t (a b : Int32) (s1 : Bool) (t : Nat → Int32) (cu at_ pl od : Int32) (sC : Nat → Int32) : f_X6_order_L242 a b s1 t cu at_ pl od true sC = some (cu, at_, pl, od, true, sC) := rfl
theorem c_pago (hz : 0 < z) (hn : z ≤ n) (hn2 : n ≤ 5676) (hS : SCR z f sc) {pl v : Nat} (hpl : pl < z) (hv : v < 512) : f_X1_putAndGoOn (nI z) (nI (cnt sc 0 z)) n f (nI pl) (nI v) = (nI (cnt (upN sc pl v) 0 z), upd f pl (nI v), nI ((pl + 1) % z)) := by
  unfold f_X1_putAndGoOn
  rw [c_put hz hn hn2 hS hpl hv, c_after (by omega) hpl]
  rfl
theorem c_stF (hz : 0 < z) (hn : z ≤ n) (hn2 : n ≤ 5676) (hS : SCR z f sc) {pl v : Nat} (hpl : pl < z) (hv : v < 256) : f_X1_startField (nI z) (nI (cnt sc 0 z)) n f (nI pl) (nI v) = (true, nI (cnt (upN sc pl (256 + v)) 0 z), upd f pl (nI (256 + v)), nI ((pl + 1) % z)) := by
  unfold f_X1_startField
  rw [if_neg (nI_m1 (by omega)), show (256 : Int32) + nI v = nI (256 + v) from nI_add 256 v, c_pago hz hn hn2 hS hpl (by omega)]
  rfl
theorem sgn_nat {a : Nat} (h : a < 256) : f_X1_isSign (nI a) = decide (a = 0 ∨ 64 ≤ a) := by
  unfold f_X1_isSign
  rcases Nat.eq_zero_or_pos a with h0 | h0
  · subst h0; rfl
  · rw [if_neg (show ¬ nI a = 0 from nI_ne (b := 0) (by omega) (by decide) (by omega))]
    rcases Nat.lt_or_ge a 64 with h1 | h1
    · rw [if_pos (show nI a < 64 from (nI_ltI (b := 64) (by omega) (by decide)).mpr h1)]
      exact (decide_eq_false (by omega)).symm
    · rw [if_neg (show ¬ nI a < 64 from fun e => by have := (nI_ltI (a := a) (b := 64) (by omega) (by decide)).mp e; omega)]
      exact (decide_eq_true (by omega)).symm
/-- the outcome of an order on both sides -/
def ordQ (z n : Nat) (f g : Nat → Int32) (sc : Nat → Nat) (gl gn : Nat) (gb st : Nat → Int32) (p pl cu : Nat) (sj : Bool) (a od : Nat) : Prop :=
  (∃ (sc' : Nat → Nat) (f' g' : Nat → Int32) (q pl' cu' : Nat), p ≤ q ∧ q ≤ gl ∧ pl' < z ∧ cu' < z ∧ SCR z f' sc' ∧ SCR z g' sc' ∧ f_X1_order (nI z) (nI (cnt sc 0 z)) (nI cu) n f (nI p) (nI pl) sj (nI gl) gn gb (nI a) = some (true, nI (cnt sc' 0 z), nI cu', f', nI q, nI pl') ∧ f_X6_order (nI z) (nI cu) (nI gl) (nI p) (nI pl) (nI od) false sj g st (nI a) = some (nI cu', nI q, nI pl', nI (od + 1), false, g')) ∨
  (∃ (q pl' q2 pl2 : Int32), f_X1_order (nI z) (nI (cnt sc 0 z)) (nI cu) n f (nI p) (nI pl) sj (nI gl) gn gb (nI a) = some (false, nI (cnt sc 0 z), nI cu, f, q, pl') ∧ f_X6_order (nI z) (nI cu) (nI gl) (nI p) (nI pl) (nI od) false sj g st (nI a) = some (nI cu, q2, pl2, nI od, true, g))
theorem upN_self {k : Nat} : ∀ j, j < z → sc j = upN sc k (sc k) j := fun j _ => by
  unfold upN
  split
  · rename_i h; rw [h]
  · rfl
theorem ord_same (hz : 0 < z) (hn : z ≤ n) (hn2 : n ≤ 5676) (hS : SCR z f sc) (hS2 : SCR z g sc) (h : STR gl gn gb st sb) {p pl cu : Nat} (hp : p ≤ gl) (hpl : pl < z) (hcu : cu < z) (sj : Bool) (a od : Nat) : ordQ z n f g sc gl gn gb st p pl cu sj a od := by
  obtain ⟨g1, g2, g3, g4⟩ := id h
  unfold ordQ f_X1_order f_X6_order
  rcases Classical.em (nI a = 5) with ha | ha
  · rw [if_pos ha, if_pos ha]
    obtain ⟨sc', f', g', pl', h1, h2, h3, h4, h5⟩ := tab_same hz hn hn2 hS hS2 hpl sj
    rw [h4, h5, Option.bind_some, Option.bind_some]
    dsimp only
    rw [r_L242]
    exact Or.inl ⟨sc', f', g', p, pl', cu, by omega, hp, h1, hcu, h2, h3, rfl, rfl⟩
  rw [if_neg ha, if_neg ha]
  rcases Classical.em (nI a = 8) with ha | ha
  · rw [if_pos ha, if_pos ha]
    unfold f_X1_putTakenSign
    rw [r_lacks1 (by omega) (by omega)]
    rcases Nat.lt_or_ge p gl with h1 | h1
    · have hb := (g4 p h1).2.2
      rw [c_take h h1, r_take h h1, if_pos (show p + 1 ≤ gl by omega)]
      dsimp only [thn, Option.bind_some]
      rw [← sign_same, sgn_nat hb, if_pos (show b2i false = 0 from rfl), ifb, ifb]
      by_cases hs : sb p = 0 ∨ 64 ≤ sb p
      · rw [decide_eq_true hs, if_pos rfl, if_pos rfl, c_pago hz hn hn2 hS hpl (by omega), r_put hz (by omega) hpl, Option.bind_some]
        dsimp only
        rw [r_L242]
        exact Or.inl ⟨_, _, _, p + 1, _, cu, by omega, by omega, Nat.mod_lt _ hz, hcu, hS.upd (by omega), hS2.upd (by omega), rfl, rfl⟩
      · rw [decide_eq_false hs, if_neg (by decide), if_neg (by decide), show f_X6_rejected false = true from rfl, r_L242t]
        exact Or.inr ⟨_, _, _, _, rfl, rfl⟩
    · rw [c_take_no h1 (by omega), if_neg (show ¬ p + 1 ≤ gl by omega)]
      exact Or.inr ⟨_, _, _, _, rfl, rfl⟩
  rw [if_neg ha, if_neg ha]
  rcases Classical.em (nI a = 17) with ha | ha
  · rw [if_pos ha, if_pos ha]
    unfold f_X1_goToAddress
    rcases adr_same (z := z) (by omega) h hp with ⟨k, h1, h2, h3, h4⟩ | ⟨q, t, h1, h2, h3, h4⟩
    · rw [h3, h4]
      dsimp only [thn, Option.bind_some]
      rw [if_neg (nI_m1 (by omega)), if_pos (show b2i false = 0 from rfl), r_L242]
      exact Or.inl ⟨sc, f, g, p + 2, k, cu, by omega, h2, h1, hcu, hS, hS2, rfl, rfl⟩
    · rw [h3, h4]
      exact Or.inr ⟨_, _, _, _, rfl, rfl⟩
  rw [if_neg ha, if_neg ha]
  rcases Classical.em (nI a = 18) with ha | ha
  · rw [if_pos ha, if_pos ha]
    unfold f_X1_eraseToAddress f_X6_erase
    rcases adr_same (z := z) (by omega) h hp with ⟨k, h1, h2, h3, h4⟩ | ⟨q, t, h1, h2, h3, h4⟩
    · rw [h3, h4]
      dsimp only [thn, Option.bind_some]
      have hst := stp_le h1 hpl
      obtain ⟨d, e1, e2, e3, e4⟩ := r_steps hz (by omega) h1 hpl
      rw [if_neg (nI_m1 (by omega)), if_pos (show b2i false = 0 from rfl), c_steps (by omega) h1 hpl, c_emptyOpenCells hz hn hn2 hS hpl (by omega), e1]
      dsimp only [Option.bind_some]
      refine Or.inl ⟨eoN z sc pl (stp z pl k), eoF z sc pl (stp z pl k) f, eoF z sc pl (stp z pl k) g, p + 2, k, cu, by omega, h2, h1, hcu, eo_SCR hS, eo_SCR hS2, by rw [eo_cnt], ?_⟩
      rcases Nat.eq_zero_or_pos d with hd | hd
      · rw [hd, if_pos (show nI 0 = 0 from rfl), r_eraseLoop hz (by omega) hS2 hpl (by omega), e2 hd, Option.bind_some]
        exact r_L242 _ _ _ _ _ _ _ _ _
      · rw [if_neg (show ¬ nI d = 0 from nI_ne (b := 0) (by omega) (by decide) (by omega)), r_eraseLoop hz (by omega) hS2 hpl (by omega), e3 (by omega), Option.bind_some]
        exact r_L242 _ _ _ _ _ _ _ _ _
    · rw [h3, h4]
      exact Or.inr ⟨_, _, _, _, rfl, rfl⟩
  rw [if_neg ha, if_neg ha]
  rcases Classical.em (nI a = 19) with ha | ha
  · rw [if_pos ha, if_pos ha, r_L242]
    exact Or.inl ⟨sc, f, g, p, pl, pl, by omega, hp, hpl, hpl, hS, hS2, rfl, rfl⟩
  rw [if_neg ha, if_neg ha]
  rcases Classical.em (nI a = 29) with ha | ha
  · rw [if_pos ha, if_pos ha, r_lacks1 (by omega) (by omega)]
    rcases Nat.lt_or_ge p gl with h1 | h1
    · have hb := (g4 p h1).2.2
      rw [c_take h h1, r_take h h1, if_pos (show p + 1 ≤ gl by omega)]
      dsimp only [thn, Option.bind_some]
      rw [c_stF hz hn hn2 hS hpl hb, if_pos (show b2i false = 0 from rfl), show (256 : Int32) + nI (sb p) = nI (256 + sb p) from nI_add 256 _, r_put hz (by omega) hpl, Option.bind_some]
      dsimp only
      rw [r_L242]
      exact Or.inl ⟨_, _, _, p + 1, _, cu, by omega, by omega, Nat.mod_lt _ hz, hcu, hS.upd (by omega), hS2.upd (by omega), rfl, rfl⟩
    · rw [c_take_no h1 (by omega), if_neg (show ¬ p + 1 ≤ gl by omega)]
      exact Or.inr ⟨_, _, _, _, rfl, rfl⟩
  rw [if_neg ha, if_neg ha]
  rcases Classical.em (nI a = 41) with ha | ha
  · rw [if_pos ha, if_pos ha]
    rcases prs_same h hp 0 with ⟨v, q, h1, h2, h3, h4, h5⟩ | ⟨q, t, h1, h2, h3, h4⟩
    · rw [show (0 : Int32) = nI 0 from rfl, h4, h5]
      dsimp only [Option.bind_some]
      have hv : v.getD 0 < 256 := by
        cases v with
        | none => decide
        | some x => exact h3 x rfl
      rw [c_stF hz hn hn2 hS hpl hv]
      refine Or.inl ⟨upN sc pl (256 + v.getD 0), _, upd g pl (nI (256 + v.getD 0)), q, _, cu, h1, h2, Nat.mod_lt _ hz, hcu, hS.upd (by omega), hS2.upd (by omega), rfl, ?_⟩
      rw [if_pos (show b2i false = nI 0 from rfl)]
      cases v with
      | none =>
        rw [if_pos (show oI none = -1 from rfl), show (256 : Int32) + nI 0 = nI (256 + 0) from rfl, r_put hz (by omega) hpl, Option.bind_some]
        exact r_L242 _ _ _ _ _ _ _ _ _
      | some x =>
        have hx := h3 x rfl
        rw [show oI (some x) = nI x from rfl, if_neg (nI_m1 (by omega)), show (256 : Int32) + nI x = nI (256 + x) from nI_add 256 _, r_put hz (by omega) hpl, Option.bind_some]
        exact r_L242 _ _ _ _ _ _ _ _ _
    · rw [show (0 : Int32) = nI 0 from rfl, h3, h4]
      exact Or.inr ⟨_, _, _, _, rfl, rfl⟩
  rw [if_neg ha, if_neg ha]
  rcases Classical.em (nI a = 44) with ha | ha
  · rw [if_pos ha, if_pos ha]
    unfold f_X1_changeAttribute f_X6_change
    have hv := (hS pl hpl).2
    rw [c_get hn hn2 hS hpl, r_isAtt (by omega) hS2 hpl, Option.bind_some, ifb]
    rcases Nat.lt_or_ge (sc pl) 256 with h1 | h1
    · have e : atb sc pl = false := by unfold atb; exact decide_eq_false (by omega)
      rw [if_neg (show ¬ (256 : Int32) ≤ nI (sc pl) from nI_ge (b := 256) h1 (by decide)), e, if_neg (by decide)]
      exact Or.inr ⟨_, _, _, _, rfl, rfl⟩
    · have e : atb sc pl = true := by unfold atb; exact decide_eq_true h1
      rw [if_pos (show (256 : Int32) ≤ nI (sc pl) from (nI_leI (a := 256) (by decide) (by omega)).mpr h1), e, if_pos rfl, show nI (sc pl) - 256 = nI (sc pl - 256) from pk_sub (b := 256) h1]
      rcases prs_same h hp (sc pl - 256) with ⟨v, q, h2, h3, h4, h5, h6⟩ | ⟨q, t, h2, h3, h4, h5⟩
      · rw [h5, h6]
        dsimp only [Option.bind_some, thn]
        have hw : v.getD (sc pl - 256) < 256 := by
          cases v with
          | none => show sc pl - 256 < 256; omega
          | some x => exact h4 x rfl
        rw [c_stF hz hn hn2 hS hpl hw, if_pos (show b2i false = 0 from rfl), nI_1, rndA hz (by omega) (by omega), if_neg (s_in (by omega)), nI_clamp (by omega)]
        dsimp only [Option.bind_some]
        cases v with
        | none =>
          rw [if_pos (show oI none = -1 from rfl), Option.bind_some]
          refine Or.inl ⟨upN sc pl (256 + (sc pl - 256)), _, g, q, _, cu, h2, h3, Nat.mod_lt _ hz, hcu, hS.upd (by omega), ?_, rfl, r_L242 _ _ _ _ _ _ _ _ _⟩
          rw [show 256 + (sc pl - 256) = sc pl by omega]
          exact hS2.congr upN_self
        | some x =>
          have hx := h4 x rfl
          rw [show oI (some x) = nI x from rfl, if_neg (nI_m1 (by omega)), show (256 : Int32) + nI x = nI (256 + x) from nI_add 256 _, Option.bind_some]
          exact Or.inl ⟨upN sc pl (256 + x), _, _, q, _, cu, h2, h3, Nat.mod_lt _ hz, hcu, hS.upd (by omega), hS2.upd (by omega), rfl, r_L242 _ _ _ _ _ _ _ _ _⟩
      · rw [h4, h5]
        exact Or.inr ⟨_, _, _, _, rfl, rfl⟩
  rw [if_neg ha, if_neg ha]
  rcases Classical.em (nI a = 60) with ha | ha
  · rw [if_pos ha, if_pos ha]
    unfold f_X1_repeatToAddress f_X6_repeat
    rcases adr_same (z := z) (by omega) h hp with ⟨k, h1, h2, h3, h4⟩ | ⟨q, t, h1, h2, h3, h4⟩
    · rw [h3, h4]
      dsimp only [thn, Option.bind_some]
      rw [if_pos (show b2i false = 0 from rfl), r_lacks1 (by omega) (by omega), if_neg (nI_m1 (by omega))]
      rcases Nat.lt_or_ge (p + 2) gl with h5 | h5
      · have hb := (g4 (p + 2) h5).2.2
        rw [c_take h h5, r_take h h5, if_pos (show p + 2 + 1 ≤ gl by omega)]
        dsimp only [thn, Option.bind_some]
        rw [← sign_same, sgn_nat hb, if_pos (show b2i false = 0 from rfl), ifb, ifb]
        by_cases hs : sb (p + 2) = 0 ∨ 64 ≤ sb (p + 2)
        · have hst := stp_le h1 hpl
          obtain ⟨d, e1, e2, e3, e4⟩ := r_steps hz (by omega) h1 hpl
          rw [decide_eq_true hs, if_pos rfl, if_pos rfl, c_steps (by omega) h1 hpl, c_fill hz hn hn2 hS hpl (by omega) (by omega), e1]
          dsimp only [Option.bind_some]
          refine Or.inl ⟨flN z pl (sb (p + 2)) (stp z pl k) sc, _, flF z pl (nI (sb (p + 2))) (stp z pl k) g, p + 2 + 1, k, cu, by omega, by omega, h1, hcu, fl_SCR hS (by omega), fl_SCR hS2 (by omega), rfl, ?_⟩
          rcases Nat.eq_zero_or_pos d with hd | hd
          · rw [hd, if_pos (show nI 0 = 0 from rfl), r_repLoop hz (by omega) hpl (by omega), e2 hd, Option.bind_some]
            exact r_L242 _ _ _ _ _ _ _ _ _
          · rw [if_neg (show ¬ nI d = 0 from nI_ne (b := 0) (by omega) (by decide) (by omega)), r_repLoop hz (by omega) hpl (by omega), e3 (by omega), Option.bind_some]
            exact r_L242 _ _ _ _ _ _ _ _ _
        · rw [decide_eq_false hs, if_neg (by decide), if_neg (by decide)]
          exact Or.inr ⟨_, _, _, _, rfl, rfl⟩
      · rw [c_take_no h5 (by omega), if_neg (show ¬ p + 2 + 1 ≤ gl by omega)]
        exact Or.inr ⟨_, _, _, _, rfl, rfl⟩
    · rw [h3, h4]
      dsimp only [thn, Option.bind_some]
      generalize f_X1_take (nI q) (nI gl) gn gb = y
      obtain ⟨y1, y2⟩ := y
      exact Or.inr ⟨_, _, _, _, rfl, rfl⟩
  rw [if_neg ha, if_neg ha]
  exact Or.inr ⟨_, _, _, _, rfl, rfl⟩
end OR2
