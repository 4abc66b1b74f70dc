/-! The reference's answer stays in its row: four places a cell at most. -/
section ANS
variable {z : Nat} {f : Nat → Int32} {sc : Nat → Nat}
theorem w_in {v : Nat} (h : v < 23000) : ¬ (nI v < 0 ∨ 23000 ≤ (nI v).toNatClampNeg) := vp_in_nI h (by decide)
theorem s_in {v : Nat} (h : v < 5676) : ¬ (nI v < 0 ∨ 5676 ≤ (nI v).toNatClampNeg) := vp_in_nI h (by decide)
theorem r_send {wl : Nat} (h : wl + 2 ≤ 23000) (wb : Nat → Int32) (a : Int32) : ∃ wl' wb', f_X6_send (nI wl) wb a = some (nI wl', wb') ∧ wl' ≤ wl + 2 ∧ (¬ a = 255 → wl' ≤ wl + 1) := by
  unfold f_X6_send
  rw [if_neg (w_in (by omega)), nI_1, if_neg (w_in (by omega)), nI_1]
  rcases Classical.em (a = 255) with h1 | h1
  · rw [if_pos h1]
    exact ⟨_, _, rfl, Nat.le_refl _, fun h2 => absurd h1 h2⟩
  · rw [if_neg h1]
    exact ⟨_, _, rfl, by omega, fun _ => Nat.le_refl _⟩
theorem r_end {wl : Nat} (h : wl + 2 ≤ 23000) (wb : Nat → Int32) : ∃ wb', f_X6_end (nI wl) wb = some (nI (wl + 2), wb') := by
  unfold f_X6_end
  rw [if_neg (w_in (by omega)), nI_1, if_neg (w_in (by omega)), nI_p2]
  exact ⟨_, rfl⟩
theorem nI_ne {a b : Nat} (ha : a < 2147483648) (hb : b < 2147483648) (h : a ≠ b) : ¬ nI a = nI b := fun e => h ((nI_eq ha hb).mp e)
theorem r_sendAddress {wl k : Nat} (hz2 : z ≤ 5676) (hk : k < z) (h : wl + 5 ≤ 23000) (wb : Nat → Int32) : ∃ wl' wb', f_X6_sendAddress (nI z) (nI wl) wb (nI k) = some (nI wl', wb') ∧ wl' ≤ wl + 3 := by
  unfold f_X6_sendAddress
  have e8 : nI k >>> ((8 : Int32) &&& 31) = nI (k / 256) := pk_shrN (by omega) _ 8 (by decide)
  have e6 : nI k >>> ((6 : Int32) &&& 31) = nI (k / 64) := pk_shrN (by omega) _ 6 (by decide)
  have e63 : nI k &&& 63 = nI (k % 64) := pk_andN (by omega) 6 (by decide)
  rcases Classical.em ((4096 : Int32) < nI z) with h1 | h1
  · rw [if_pos h1, e8]
    obtain ⟨a, wa, h2, h3, h4⟩ := r_send (wl := wl) (by omega) wb (nI (k / 256))
    have h5 := h4 (nI_ne (b := 255) (by omega) (by decide) (by omega))
    rw [h2, Option.bind_some]
    dsimp only
    rw [if_pos h1]
    obtain ⟨b, wb2, h6, h7, -⟩ := r_send (wl := a) (by omega) wa (nI k &&& 255)
    rw [h6]
    exact ⟨b, wb2, rfl, by omega⟩
  · have hz4 : z ≤ 4096 := by
      rcases Nat.lt_or_ge 4096 z with h2 | h2
      · exact absurd ((nI_ltI (a := 4096) (b := z) (by decide) (by omega)).mpr h2) h1
      · exact h2
    rw [if_neg h1, e6, show (64 : Int32) + nI (k / 64) = nI (64 + k / 64) from nI_add 64 _]
    obtain ⟨a, wa, h2, h3, h4⟩ := r_send (wl := wl) (by omega) wb (nI (64 + k / 64))
    have h5 := h4 (nI_ne (b := 255) (by omega) (by decide) (by omega))
    rw [h2, Option.bind_some]
    dsimp only
    rw [if_neg h1, e63, show (64 : Int32) + nI (k % 64) = nI (64 + k % 64) from nI_add 64 _]
    obtain ⟨b, wb2, h6, h7, h8⟩ := r_send (wl := a) (by omega) wa (nI (64 + k % 64))
    have h9 := h8 (nI_ne (b := 255) (by omega) (by decide) (by omega))
    rw [h6]
    exact ⟨b, wb2, rfl, by omega⟩
theorem toE_true (hz : 0 < z) {k : Nat} (hk : k < z) (h : 0 < cnt sc 0 z) : atb sc ((k + toE z sc k) % z) = true ∧ toE z sc k < z := by
  unfold toE
  cases e : nxt z sc k with
  | none =>
    have := (nxt_none hz hk).mp e
    omega
  | some n =>
    have h1 := ff_some e
    exact ⟨h1.2.2.1, by have := h1.2.1; show n < z; omega⟩
theorem toE_at (hz : 0 < z) {k : Nat} (hk : k < z) (h : atb sc k = true) : toE z sc k = 0 := by
  rcases Nat.eq_zero_or_pos (toE z sc k) with h1 | h1
  · exact h1
  · have h2 := toE_atb hz hk 0 h1
    rw [Nat.add_zero, Nat.mod_eq_of_lt hk, h] at h2
    cases h2
theorem toE_step (hz : 0 < z) {k : Nat} (hk : k < z) (hc : 0 < cnt sc 0 z) (h : atb sc k = false) : toE z sc k = 1 + toE z sc ((k + 1) % z) := by
  have hk1 : (k + 1) % z < z := Nat.mod_lt _ hz
  obtain ⟨a1, a2⟩ := toE_true hz hk hc
  obtain ⟨b1, b2⟩ := toE_true hz hk1 hc
  have a3 := toE_atb (sc := sc) hz hk
  have b3 := toE_atb (sc := sc) hz hk1
  have hp : 0 < toE z sc k := toE_pos hk h
  have em : ∀ i, ((k + 1) % z + i) % z = (k + (i + 1)) % z := fun i => by rw [Nat.mod_add_mod]; congr 1; omega
  rw [em] at b1
  generalize toE z sc k = x at *
  generalize toE z sc ((k + 1) % z) = y at *
  rcases Nat.lt_trichotomy x (1 + y) with h1 | h1 | h1
  · have h2 := b3 (x - 1) (by omega)
    rw [em, show x - 1 + 1 = x by omega, a1] at h2
    cases h2
  · exact h1
  · have h2 := a3 (y + 1) (by omega)
    rw [b1] at h2
    cases h2
/-- how far the fields reach that begin ahead of j -/
def eE (z : Nat) (sc : Nat → Nat) (j : Nat) : Nat := j + toE z sc (j % z)
theorem r_sf19 (hz : 0 < z) (hz2 : z ≤ 5676) (hS : SCR z f sc) {k : Nat} (hk : k < z) (hc : 0 < cnt sc 0 z) {w0 : Nat} (hw : w0 + 2 * toE z sc ((k + 1) % z) + 2 ≤ 23000) :
    ∀ (fu i wl : Nat) (wb : Nat → Int32), z < fu + i → 1 ≤ i → i ≤ z → (∀ i', 1 ≤ i' → i' < i → atb sc ((k + i') % z) = false) → wl ≤ w0 + 2 * (i - 1) → ∃ wl' wb', f_X6_sendField_L19 (nI z) f fu (nI k) (nI i) (nI wl) wb = some (nI wl', wb') ∧ wl' ≤ w0 + 2 * toE z sc ((k + 1) % z) := by
  obtain ⟨t1, t2⟩ := toE_true hz (Nat.mod_lt (k + 1) hz) hc
  rw [Nat.mod_add_mod] at t1
  have lim : ∀ i, 1 ≤ i → (∀ i', 1 ≤ i' → i' < i → atb sc ((k + i') % z) = false) → i - 1 ≤ toE z sc ((k + 1) % z) := fun i h1 h2 => by
    rcases Nat.lt_or_ge (toE z sc ((k + 1) % z)) (i - 1) with h3 | h3
    · have h4 := h2 (1 + toE z sc ((k + 1) % z)) (by omega) (by omega)
      rw [← Nat.add_assoc, t1] at h4
      cases h4
    · exact h3
  intro fu
  induction fu with
  | zero => intro i wl wb h1 h2 h3; omega
  | succ fu ih =>
    intro i wl wb h1 h2 h3 h4 h5
    have hl := lim i h2 h4
    rw [f_X6_sendField_L19.eq_2]
    rcases Nat.lt_or_ge i z with h | h
    · rw [if_neg (nI_ge h (by omega)), nI_add, rndA hz hz2 (by omega), Option.bind_some, Option.bind_some, r_isAtt hz2 hS (Nat.mod_lt _ hz), Option.bind_some, ifb, nI_1]
      rcases hb : atb sc ((k + i) % z) with _ | _
      · rw [if_neg (by decide), if_neg (s_in (by have := Nat.mod_lt (k + i) hz; omega)), nI_clamp (by have := Nat.mod_lt (k + i) hz; omega)]
        have h6 : ∀ i', 1 ≤ i' → i' < i + 1 → atb sc ((k + i') % z) = false := fun i' g1 g2 => by
          rcases Nat.lt_or_ge i' i with g3 | g3
          · exact h4 i' g1 g3
          · rw [show i' = i by omega]; exact hb
        have hl2 := lim (i + 1) (by omega) h6
        rcases Classical.em (f ((k + i) % z) = 0) with h7 | h7
        · rw [if_pos h7]
          exact ih (i + 1) wl wb (by omega) (by omega) (by omega) h6 (by omega)
        · rw [if_neg h7, Option.bind_some, if_neg (s_in (by have := Nat.mod_lt (k + i) hz; omega)), nI_clamp (by have := Nat.mod_lt (k + i) hz; omega)]
          obtain ⟨a, wa, g1, g2, -⟩ := r_send (wl := wl) (by omega) wb (f ((k + i) % z))
          rw [g1, Option.bind_some]
          exact ih (i + 1) a wa (by omega) (by omega) (by omega) h6 (by omega)
      · rw [if_pos rfl]
        exact ⟨_, _, rfl, by omega⟩
    · rw [if_pos ((nI_leI (by omega) (by omega)).mpr h)]
      exact ⟨_, _, rfl, by omega⟩
theorem r_sendField (hz : 0 < z) (hz2 : z ≤ 5676) (hS : SCR z f sc) {k wl : Nat} (hk : k < z) (hc : 0 < cnt sc 0 z) (hw : wl + 4 + 2 * toE z sc ((k + 1) % z) + 5 ≤ 23000) (wb : Nat → Int32) :
    ∃ wl' wb', f_X6_sendField (nI z) (nI wl) f wb (nI k) = some (nI wl', wb') ∧ wl' ≤ wl + 4 + 2 * toE z sc ((k + 1) % z) := by
  unfold f_X6_sendField
  obtain ⟨a, wa, g1, -, g2⟩ := r_send (wl := wl) (by omega) wb 17
  have g3 := g2 (by decide)
  rw [g1, Option.bind_some]
  dsimp only
  rw [nI_1, rndA hz hz2 (by omega), Option.bind_some]
  obtain ⟨b, wb2, g4, g5⟩ := r_sendAddress (wl := a) hz2 (Nat.mod_lt (k + 1) hz) (by omega) wa
  rw [g4, Option.bind_some]
  obtain ⟨c, wc, g6, g7⟩ := r_sf19 hz hz2 hS hk hc (w0 := b) (by omega) FU 1 b wb2 (by show z < 100000 + 1; omega) (Nat.le_refl _) hz (fun i' h1 h2 => by omega) (by omega)
  exact ⟨c, wc, g6, by omega⟩
theorem r_ansAll (hz2 : z ≤ 5676) (hS : SCR z f sc) (cu v3 : Int32) : ∀ (fu j wl : Nat) (wb : Nat → Int32), z < fu + j → j ≤ z → wl ≤ 5 + 4 * j → ∃ wl' wb', f_X6_answer_L34 (nI z) cu f fu true v3 (nI j) (nI wl) wb = some (nI wl', wb') ∧ wl' ≤ 22800 := by
  intro fu
  induction fu with
  | zero => intro j wl wb h1 h2; omega
  | succ fu ih =>
    intro j wl wb h1 h2 h3
    rw [f_X6_answer_L34.eq_2]
    rcases Nat.lt_or_ge j z with h | h
    · rw [if_neg (nI_ge h (by omega)), nI_1, if_neg (show ¬ b2i true = 0 by decide), r_isAtt hz2 hS h, Option.bind_some, ifb, if_neg (show ¬ b2i true = 0 by decide)]
      rcases hb : atb sc j with _ | _
      · rw [if_neg (by decide), if_neg (s_in (v := j) (by omega)), nI_clamp (by omega)]
        obtain ⟨a, wa, g1, g2, -⟩ := r_send (wl := wl) (by omega) wb (f j)
        rw [g1, Option.bind_some]
        exact ih (j + 1) a wa (by omega) (by omega) (by omega)
      · rw [if_pos rfl]
        obtain ⟨a, wa, g1, -, g2⟩ := r_send (wl := wl) (by omega) wb 29
        have g3 := g2 (by decide)
        rw [g1, Option.bind_some]
        dsimp only
        rw [if_neg (s_in (v := j) (by omega)), nI_clamp (by omega)]
        obtain ⟨b, wb2, g4, g5, -⟩ := r_send (wl := a) (by omega) wa (f j - 256)
        rw [g4, Option.bind_some]
        exact ih (j + 1) b wb2 (by omega) (by omega) (by omega)
    · rw [if_pos ((nI_leI (by omega) (by omega)).mpr h)]
      obtain ⟨wb', g1⟩ := r_end (wl := wl) (by omega) wb
      rw [g1]
      exact ⟨_, _, rfl, by omega⟩
theorem r_ansPlain (hz2 : z ≤ 5676) (hS : SCR z f sc) (hn : ∀ j, j < z → atb sc j = false) (cu : Int32) : ∀ (fu j wl : Nat) (wb : Nat → Int32), z < fu + j → j ≤ z → wl ≤ 5 + 4 * j → ∃ wl' wb', f_X6_answer_L34 (nI z) cu f fu false 1 (nI j) (nI wl) wb = some (nI wl', wb') ∧ wl' ≤ 22800 := by
  intro fu
  induction fu with
  | zero => intro j wl wb h1 h2; omega
  | succ fu ih =>
    intro j wl wb h1 h2 h3
    rw [f_X6_answer_L34.eq_2]
    rcases Nat.lt_or_ge j z with h | h
    · rw [if_neg (nI_ge h (by omega)), nI_1, if_pos (show b2i false = 0 from rfl), if_pos (show b2i false = 0 from rfl), if_neg (show ¬ (1 : Int32) = 0 by decide), if_neg (s_in (by omega)), nI_clamp (by omega)]
      rcases Classical.em (f j = 0) with h7 | h7
      · rw [if_pos h7, r_isAtt hz2 hS h, hn j h, Option.bind_some, if_pos (show b2i false = 0 from rfl)]
        exact ih (j + 1) wl wb (by omega) (by omega) (by omega)
      · rw [if_neg h7]
        obtain ⟨a, wa, g1, g2, -⟩ := r_send (wl := wl) (by omega) wb (f j)
        rw [g1, Option.bind_some]
        exact ih (j + 1) a wa (by omega) (by omega) (by omega)
    · rw [if_pos ((nI_leI (by omega) (by omega)).mpr h)]
      obtain ⟨wb', g1⟩ := r_end (wl := wl) (by omega) wb
      rw [g1]
      exact ⟨_, _, rfl, by omega⟩
theorem r_ansMod (hz : 0 < z) (hz2 : z ≤ 5676) (hS : SCR z f sc) (hc : 0 < cnt sc 0 z) (cu : Int32) : ∀ (fu j wl : Nat) (wb : Nat → Int32), z < fu + j → j ≤ z → wl + 4 * eE z sc 0 ≤ 5 + 4 * eE z sc j → ∃ wl' wb', f_X6_answer_L34 (nI z) cu f fu false 0 (nI j) (nI wl) wb = some (nI wl', wb') ∧ wl' ≤ 22800 := by
  have eZ : eE z sc z = z + eE z sc 0 := by unfold eE; rw [Nat.mod_self, Nat.zero_mod]; omega
  have e1 : ∀ j, j < z → atb sc j = true → eE z sc j = j ∧ eE z sc (j + 1) = j + 1 + toE z sc ((j + 1) % z) := fun j hj h => by
    unfold eE
    rw [Nat.mod_eq_of_lt hj, toE_at hz hj h]
    exact ⟨rfl, rfl⟩
  have e2 : ∀ j, j < z → atb sc j = false → eE z sc (j + 1) = eE z sc j := fun j hj h => by
    unfold eE
    rw [Nat.mod_eq_of_lt hj, toE_step hz hj hc h]
    omega
  have mono : ∀ d j, j + d = z → eE z sc j ≤ eE z sc z := by
    intro d
    induction d with
    | zero => intro j h; rw [show j = z by omega]; exact Nat.le_refl _
    | succ d ihd =>
      intro j h
      have h1 := ihd (j + 1) (by omega)
      rcases hb : atb sc j with _ | _
      · rw [e2 j (by omega) hb] at h1; exact h1
      · have h2 := e1 j (by omega) hb
        omega
  intro fu
  induction fu with
  | zero => intro j wl wb h1 h2; omega
  | succ fu ih =>
    intro j wl wb h1 h2 h3
    rw [f_X6_answer_L34.eq_2]
    rcases Nat.lt_or_ge j z with h | h
    · have hmj := mono (z - (j + 1)) (j + 1) (by omega)
      rw [if_neg (nI_ge h (by omega)), nI_1, if_pos (show b2i false = 0 from rfl), if_pos (show b2i false = 0 from rfl), if_pos (show (0 : Int32) = 0 from rfl), r_isAtt hz2 hS h, Option.bind_some, ifb, if_neg (s_in (v := j) (by omega)), nI_clamp (by omega)]
      rcases hb : atb sc j with _ | _
      · rw [if_neg (by decide)]
        have h4 := e2 j h hb
        exact ih (j + 1) wl wb (by omega) (by omega) (by omega)
      · rw [if_pos rfl]
        have h4 := e1 j h hb
        rcases Classical.em (f j &&& 1 = 0) with h7 | h7
        · rw [if_pos h7]
          exact ih (j + 1) wl wb (by omega) (by omega) (by omega)
        · rw [if_neg h7]
          obtain ⟨a, wa, g1, g2⟩ := r_sendField (wl := wl) hz hz2 hS h hc (by omega) wb
          rw [g1, Option.bind_some]
          exact ih (j + 1) a wa (by omega) (by omega) (by omega)
    · rw [if_pos ((nI_leI (by omega) (by omega)).mpr h)]
      have hjz : j = z := by omega
      subst hjz
      obtain ⟨wb', g1⟩ := r_end (wl := wl) (by omega) wb
      rw [g1]
      exact ⟨_, _, rfl, by omega⟩
theorem r_answer (hz : 0 < z) (hz2 : z ≤ 5676) (hS : SCR z f sc) {cu : Nat} (hcu : cu < z) (wl0 key : Int32) (wb : Nat → Int32) (all : Bool) : ∃ wl' wb', f_X6_answer (nI z) (nI cu) wl0 f wb key all = some (nI wl', wb') ∧ wl' ≤ 22800 := by
  unfold f_X6_answer
  obtain ⟨a, wa, g1, g2, -⟩ := r_send (wl := 0) (by omega) wb key
  rw [show (0 : Int32) = nI 0 from rfl, g1, Option.bind_some]
  dsimp only
  obtain ⟨b, wb2, g3, g4⟩ := r_sendAddress (wl := a) hz2 hcu (by omega) wa
  rw [g3, Option.bind_some]
  dsimp only
  rw [r_fields hz2 hS, Option.bind_some]
  cases all with
  | true =>
    rcases Classical.em (nI (cnt sc 0 z) = nI 0) with h | h
    · rw [if_pos h]
      exact r_ansAll hz2 hS _ 1 FU 0 b wb2 (by show z < 100000 + 0; omega) (by omega) (by omega)
    · rw [if_neg h]
      exact r_ansAll hz2 hS _ _ FU 0 b wb2 (by show z < 100000 + 0; omega) (by omega) (by omega)
  | false =>
    have hcl := cnt_le sc z 0
    rcases Nat.eq_zero_or_pos (cnt sc 0 z) with h | h
    · rw [h, if_pos rfl]
      exact r_ansPlain hz2 hS (fun j hj => cnt_0.mp h j (Nat.zero_le _) (by omega)) _ FU 0 b wb2 (by show z < 100000 + 0; omega) (by omega) (by omega)
    · rw [if_neg (nI_ne (b := 0) (by omega) (by decide) (by omega))]
      exact r_ansMod hz hz2 hS h _ FU 0 b wb2 (by show z < 100000 + 0; omega) (by omega) (by omega)
theorem r_shortly (wl0 key : Int32) (wb : Nat → Int32) : ∃ wl' wb', f_X6_shortly wl0 wb key = some (nI wl', wb') ∧ wl' ≤ 22800 := by
  unfold f_X6_shortly
  obtain ⟨a, wa, g1, g2, -⟩ := r_send (wl := 0) (by omega) wb key
  rw [show (0 : Int32) = nI 0 from rfl, g1, Option.bind_some]
  dsimp only
  obtain ⟨wb', g3⟩ := r_end (wl := a) (by omega) wa
  rw [g3]
  exact ⟨_, _, rfl, by omega⟩
end ANS
