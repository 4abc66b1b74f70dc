/-! A write command, both sides at once. -/
section WR2
variable {z n : Nat} {f g : Nat → Int32} {sc : Nat → Nat} {gl gn : Nat} {gb st : Nat → Int32} {sb : Nat → Nat}
theorem w25_same (hz : 0 < z) (hn : z ≤ n) (hn2 : n ≤ 5676) (hS : SCR z f sc) (hS2 : SCR z g sc) (h : STR gl gn gb st sb) {p cu : Nat} (hp : p ≤ gl) (hcu : cu < z) (sp : Bool) (v wl : Int32) (lk : Bool) (u1 : Int32) (u2 : Bool) (al : Int32) (w1 : Int32) (w2 w3 : Bool) :
    ∃ (ok : Bool) (sc' : Nat → Nat) (f' g' : Nat → Int32) (cu' od' : Nat) (al' x1 x2 : Int32) (x3 : Bool) (y1 y2 : Int32) (y3 : Bool), cu' < z ∧ SCR z f' sc' ∧ SCR z g' sc' ∧ (ok = true → y1 = nI gl) ∧
      f_X1_write_L25 (nI z) n sp (nI gl) gn gb v (nI (cnt sc 0 z)) (nI cu) f wl lk (nI p) u1 u2 0 al = some (ok && !sp, nI (cnt sc' 0 z), nI cu', f', frW ((ok && !sp) && c2 v) wl, frL ((ok && !sp) && c2 v) lk, x1, x2, x3, nI od', al') ∧
      f_X6_write_L55 (nI z) (nI gl) st v (nI cu) al (nI p) w1 0 false w2 w3 g = some (nI cu', al', y1, y2, nI od', !ok, y3, c2 v, g') := by
  have key := fun (a1 : Int32) (fr : Bool) => wr_same hz hn hn2 h sp v wl lk a1 a1 fr FU 0 p cu cu 0 sc f g false (by show gl + 1 < 100000 + p; have := h.2.2.1; omega) (by omega) hp hcu hcu hS hS2
  have e : f_X6_write_L55 (nI z) (nI gl) st v (nI cu) al (nI p) w1 0 false w2 w3 g = f_X6_write_L99 (nI z) (nI gl) st FU (nI cu) (if v &&& 4 = 0 then al else al + 1) (nI p) (nI cu) (nI 0) false false (c2 v) g := by
    unfold f_X6_write_L55 c2
    by_cases h2 : v &&& 2 = 0 <;> by_cases h4 : v &&& 4 = 0 <;> simp [h2, h4] <;> rfl
  have e2 : f_X1_write_L25 (nI z) n sp (nI gl) gn gb v (nI (cnt sc 0 z)) (nI cu) f wl lk (nI p) u1 u2 0 al = f_X1_write_L59 (nI z) n sp (nI gl) gn gb FU v (nI 0) (nI (cnt sc 0 z)) (nI cu) f wl lk (nI p) (nI cu) false (nI 0) (if v &&& 4 = 0 then al else al + 1) := by
    unfold f_X1_write_L25
    by_cases h4 : v &&& 4 = 0 <;> simp [h4] <;> rfl
  rw [e, e2]
  obtain ⟨ok, sc', f', g', cu', od', x1, x2, x3, y1, y2, y3, k⟩ := key (if v &&& 4 = 0 then al else al + 1) (c2 v)
  exact ⟨ok, sc', f', g', cu', od', _, x1, x2, x3, y1, y2, y3, k⟩
theorem write_same (hz : 0 < z) (hn : z ≤ n) (hn2 : n ≤ 5676) (hS : SCR z f sc) (hS2 : SCR z g sc) (h : STR gl gn gb st sb) {p cu : Nat} (hp : p ≤ gl) (hcu : cu < z) (sp : Bool) (wl : Int32) (lk : Bool) (u1 : Int32) (u2 : Bool) (al : Int32) (w1 : Int32) (w2 : Bool) :
    ∃ (ok fr : Bool) (sc' : Nat → Nat) (f' g' : Nat → Int32) (cu' od' : Nat) (al' x1 x2 : Int32) (x3 : Bool) (y1 y2 : Int32) (y3 : Bool), cu' < z ∧ SCR z f' sc' ∧ SCR z g' sc' ∧ (ok = true → y1 = nI gl) ∧
      f_X1_write (nI z) (nI (cnt sc 0 z)) (nI cu) n f wl lk sp (nI p) u1 u2 0 al (nI gl) gn gb = some (ok && !sp, nI (cnt sc' 0 z), nI cu', f', frW ((ok && !sp) && fr) wl, frL ((ok && !sp) && fr) lk, x1, x2, x3, nI od', al') ∧
      f_X6_write (nI z) (nI cu) al (nI gl) (nI p) w1 0 false w2 false g st = some (nI cu', al', y1, y2, nI od', !ok, y3, fr, g') := by
  obtain ⟨g1, g2, g3, g4⟩ := id h
  unfold f_X1_write f_X6_write
  rw [r_lacks1 (by omega) (by omega)]
  rcases Nat.lt_or_ge p gl with h1 | h1
  · have hb := (g4 p h1).2.2
    rw [if_pos (show p + 1 ≤ gl by omega), c_take h h1, r_take h h1]
    dsimp only [thn, Option.bind_some]
    rw [if_neg (nI_m1 (by omega)), if_pos (show b2i false = 0 from rfl)]
    rcases Classical.em (nI (sb p) &&& 1 = 0) with h2 | h2
    · rw [if_pos h2, if_pos h2]
      obtain ⟨ok, sc', f', g', cu', od', al', x1, x2, x3, y1, y2, y3, k⟩ := w25_same hz hn hn2 hS hS2 h (p := p + 1) (by omega) hcu sp (nI (sb p)) wl lk u1 u2 al w1 w2 false
      exact ⟨ok, _, sc', f', g', cu', od', al', x1, x2, x3, y1, y2, y3, k⟩
    · rw [if_neg h2, if_neg h2]
      obtain ⟨f1, hf1, hS1⟩ := c_noneModified hz hn hn2 hS
      obtain ⟨q1, hq1, hS3⟩ := r_noneModified hz (by omega) hS2 (nI gl) st (nI (sb p)) (nI cu) al (nI (p + 1)) w1 0 false w2 false
      rw [hf1, hq1, Option.bind_some]
      dsimp only
      obtain ⟨ok, sc', f', g', cu', od', al', x1, x2, x3, y1, y2, y3, k⟩ := w25_same hz hn hn2 hS1 hS3 h (p := p + 1) (by omega) hcu sp (nI (sb p)) wl lk u1 u2 al w1 w2 false
      rw [clP_cnt] at k
      exact ⟨ok, _, sc', f', g', cu', od', al', x1, x2, x3, y1, y2, y3, k⟩
  · rw [if_neg (show ¬ p + 1 ≤ gl by omega), c_take_no h1 (by omega)]
    exact ⟨false, false, sc, f, g, cu, 0, al, _, _, _, _, _, _, hcu, hS, hS2, (fun e => by cases e), rfl, rfl⟩
end WR2
