/-! What is composed for sending: both sides come to an end (its bytes aren't compared here, only its bounds on the reference's side). -/
section SND
variable {z n : Nat} {f : Nat → Int32} {sc : Nat → Nat}
theorem c_addSigns5 (zz : Int32) {m : Nat} (hm : m < 100000) : ∀ (fu j : Nat) (v3 wl : Int32) (wn : Nat) (wb : Nat → Int32), m < fu + j → j ≤ m → ∃ res, f_X4_addSigns_L5 zz n f fu (nI m) v3 (nI j) wl wn wb = some res := by
  intro fu
  induction fu with
  | zero => intro j v3 wl wn wb h1 h2; omega
  | succ fu ih =>
    intro j v3 wl wn wb h1 h2
    rw [f_X4_addSigns_L5.eq_2]
    rcases Nat.lt_or_ge j m with h | h
    · rw [if_neg (nI_ge h (by omega)), nI_1]
      rcases Classical.em (f_X3_get n f v3 = 0) with h3 | h3
      · rw [if_pos h3]
        exact ih (j + 1) _ _ _ _ (by omega) (by omega)
      · rw [if_neg h3]
        generalize f_X4_add wl wn wb (f_X3_get n f v3) = x
        obtain ⟨x1, x2, x3⟩ := x
        exact ih (j + 1) _ x1 x2 x3 (by omega) (by omega)
    · rw [if_pos ((nI_leI (by omega) (by omega)).mpr h)]
      exact ⟨_, rfl⟩
theorem c_addSigns (zz : Int32) {m : Nat} (hm : m < 99999) (wl : Int32) (wn : Nat) (wb : Nat → Int32) (v3 : Int32) : ∃ res, f_X4_addSigns zz n f wl wn wb v3 (nI m) = some res := by
  unfold f_X4_addSigns
  exact c_addSigns5 zz (by omega) FU 0 v3 wl wn wb (by show m < 100000 + 0; omega) (by omega)
theorem c_addAll2 {m : Nat} (hm : m < 100000) : ∀ (fu j : Nat) (wl : Int32) (wn : Nat) (wb : Nat → Int32), m < fu + j → j ≤ m → ∃ res, f_X4_addAllCells_L2 (nI m) n f fu (nI j) wl wn wb = some res := by
  intro fu
  induction fu with
  | zero => intro j wl wn wb h1 h2; omega
  | succ fu ih =>
    intro j wl wn wb h1 h2
    rw [f_X4_addAllCells_L2.eq_2]
    rcases Nat.lt_or_ge j m with h | h
    · rw [if_neg (nI_ge h (by omega)), nI_1]
      rcases Classical.em (f_X3_get n f (nI j) < 256) with h3 | h3
      · rw [if_pos h3]
        generalize f_X4_add wl wn wb (f_X3_get n f (nI j)) = x
        obtain ⟨x1, x2, x3⟩ := x
        exact ih (j + 1) x1 x2 x3 (by omega) (by omega)
      · rw [if_neg h3]
        generalize f_X4_add wl wn wb 29 = x
        obtain ⟨x1, x2, x3⟩ := x
        dsimp only [thn]
        generalize f_X4_add x1 x2 x3 (f_X3_get n f (nI j) - 256) = y
        obtain ⟨y1, y2, y3⟩ := y
        exact ih (j + 1) y1 y2 y3 (by omega) (by omega)
    · rw [if_pos ((nI_leI (by omega) (by omega)).mpr h)]
      exact ⟨_, rfl⟩
theorem c_addMod2 (hz : 0 < z) (hn : z ≤ n) (hn2 : n ≤ 5676) (hS : SCR z f sc) : ∀ (fu j : Nat) (wl : Int32) (wn : Nat) (wb : Nat → Int32), z < fu + j → j ≤ z → ∃ res, f_X4_addModifiedFields_L2 (nI z) (nI (cnt sc 0 z)) n f fu (nI j) wl wn wb = some res := by
  intro fu
  induction fu with
  | zero => intro j wl wn wb h1 h2; omega
  | succ fu ih =>
    intro j wl wn wb h1 h2
    rw [f_X4_addModifiedFields_L2.eq_2]
    rcases Nat.lt_or_ge j z with h | h
    · rw [if_neg (nI_ge h (by omega)), nI_1]
      rcases Classical.em (f_X3_get n f (nI j) < 256) with h3 | h3
      · rw [if_pos h3]
        exact ih (j + 1) _ _ _ (by omega) (by omega)
      · rw [if_neg h3]
        rcases Classical.em (f_X3_get n f (nI j) &&& 1 = 0) with h4 | h4
        · rw [if_pos h4]
          exact ih (j + 1) _ _ _ (by omega) (by omega)
        · rw [if_neg h4, c_after (by omega) h, c_toEnd hz hn hn2 hS (Nat.mod_lt _ hz)]
          generalize f_X4_add wl wn wb 17 = x
          obtain ⟨x1, x2, x3⟩ := x
          dsimp only [thn]
          generalize f_X4_addAddress (nI z) x1 x2 x3 (nI ((j + 1) % z)) = y
          obtain ⟨y1, y2, y3⟩ := y
          dsimp only [Option.bind_some]
          have hE := toE_le (z := z) (sc := sc) (k := (j + 1) % z)
          obtain ⟨⟨w1, w2, w3⟩, hw⟩ := c_addSigns (n := n) (f := f) (nI z) (m := toE z sc ((j + 1) % z)) (by omega) y1 y2 y3 (nI ((j + 1) % z))
          rw [hw]
          exact ih (j + 1) w1 w2 w3 (by omega) (by omega)
    · rw [if_pos ((nI_leI (by omega) (by omega)).mpr h)]
      exact ⟨_, rfl⟩
theorem c_compose (hz : 0 < z) (hn : z ≤ n) (hn2 : n ≤ 5676) (hS : SCR z f sc) (cu key wl : Int32) (wn : Nat) (wb : Nat → Int32) (all : Bool) : ∃ res, f_X4_compose (nI z) (nI (cnt sc 0 z)) cu n f key wl wn wb all = some res := by
  unfold f_X4_compose
  dsimp only [thn]
  generalize f_X4_add (f_X0_clear_oW wl) wn wb key = x
  obtain ⟨x1, x2, x3⟩ := x
  dsimp only
  rcases Classical.em (b2i (f_X4_latestSendsShortly key) = 0) with h | h
  · rw [if_pos h]
    generalize f_X4_addAddress (nI z) x1 x2 x3 cu = y
    obtain ⟨y1, y2, y3⟩ := y
    dsimp only
    rcases Classical.em (b2i all = 0) with h2 | h2
    · rw [if_pos h2]
      rcases Classical.em (nI (cnt sc 0 z) ≤ 0) with h3 | h3
      · rw [if_pos h3]
        obtain ⟨⟨w1, w2, w3⟩, hw⟩ := c_addSigns (n := n) (f := f) (nI z) (m := z) (by omega) y1 y2 y3 0
        rw [hw]
        exact ⟨_, rfl⟩
      · rw [if_neg h3]
        unfold f_X4_addModifiedFields
        obtain ⟨⟨w1, w2, w3⟩, hw⟩ := c_addMod2 hz hn hn2 hS FU 0 y1 y2 y3 (by show z < 100000 + 0; omega) (by omega)
        rw [show (0 : Int32) = nI 0 from rfl, hw]
        exact ⟨_, rfl⟩
    · rw [if_neg h2]
      unfold f_X4_addAllCells
      obtain ⟨⟨w1, w2, w3⟩, hw⟩ := c_addAll2 (n := n) (f := f) (m := z) (by omega) FU 0 y1 y2 y3 (by show z < 100000 + 0; omega) (by omega)
      rw [show (0 : Int32) = nI 0 from rfl, hw]
      exact ⟨_, rfl⟩
  · rw [if_neg h]
    exact ⟨_, rfl⟩
end SND
