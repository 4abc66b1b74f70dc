/-! perform, both sides at once. -/
theorem ends_eq (sp : Bool) {gl : Nat} (h0 : 1 ≤ gl) (hg : gl < 2147483648) : f_X1_endsHere sp (nI 1) (nI gl) = (decide (gl = 1) && !sp) := by
  unfold f_X1_endsHere
  rcases Nat.lt_or_ge 1 gl with h | h
  · rw [if_pos ((nI_ltI (by decide) hg).mpr h), decide_eq_false (by omega)]; rfl
  · rw [if_neg (fun e => by have := (nI_ltI (by decide) hg).mp e; omega), decide_eq_true (by omega)]
    cases sp <;> rfl
section PR2
variable {f g : Nat → Int32} {sc : Nat → Nat} {gl gn : Nat} {gb st : Nat → Int32} {sb : Nat → Nat}
def perQ (R0 K0 r k cu : Nat) (sc : Nat → Nat) (f g : Nat → Int32) (gl gn : Nat) (gb st : Nat → Int32) (sp : Bool) (la wl : Int32) (wn : Nat) (wb : Nat → Int32) (lk : Bool) (x1 x2 : Int32) (x3 : Bool) (x4 al rj y1 y2 y3 : Int32) (y4 y5 y6 : Bool) (w : Nat) (wb2 : Nat → Int32) : Prop :=
  ∃ (acc lk' : Bool) (r' k' cu' od' : Nat) (sc' : Nat → Nat) (f' g' : Nat → Int32) (wl' : Int32) (wn' : Nat) (wb' : Nat → Int32) (al' : Int32) (u1 u2 : Int32) (u3 : Bool) (v1 v2 : Int32) (v3 v4 : Bool) (w' : Nat) (wb2' : Nat → Int32), (1 ≤ r' ∧ r' ≤ R0 ∧ 1 ≤ k' ∧ k' ≤ K0) ∧ cu' < r' * k' ∧ SCR (r' * k') f' sc' ∧ SCR (r' * k') g' sc' ∧ w' ≤ 22800 ∧
   f_X1_perform (nI R0) (nI K0) (nI r) (nI k) (nI (r * k)) (nI (cnt sc 0 (r * k))) (nI cu) (R0 * K0) f la wl wn wb lk sp x1 x2 x3 x4 al (nI gl) gn gb = some (acc, nI r', nI k', nI (r' * k'), nI (cnt sc' 0 (r' * k')), nI cu', f', wl', wn', wb', lk', u1, u2, u3, nI od', al') ∧
   f_X6_perform (nI R0) (nI K0) (nI r) (nI k) (nI (r * k)) (nI cu) lk al rj la (nI gl) y1 y2 y3 y4 y5 y6 (nI w) g st wb2 sp = some (nI r', nI k', nI (r' * k'), nI cu', (if acc = true then lk' else true), al', (if acc = true then rj else rj + 1), v1, v2, nI od', !acc, v3, v4, nI w', g', wb2')
theorem perf_same {R0 K0 r k cu : Nat} (hR : 1 ≤ R0 ∧ R0 ≤ 43 ∧ 1 ≤ K0 ∧ K0 ≤ 132) (hr : 1 ≤ r ∧ r ≤ R0 ∧ 1 ≤ k ∧ k ≤ K0) (hcu : cu < r * k) (hS : SCR (r * k) f sc) (hS2 : SCR (r * k) g sc) (h : STR gl gn gb st sb) (sp : Bool) (la wl : Int32) (wn : Nat) (wb : Nat → Int32) (lk : Bool) (x1 x2 : Int32) (x3 : Bool) (x4 al rj y1 y2 y3 : Int32) (y4 y5 y6 : Bool) {w : Nat} (hw : w ≤ 22800) (wb2 : Nat → Int32) : perQ R0 K0 r k cu sc f g gl gn gb st sp la wl wn wb lk x1 x2 x3 x4 al rj y1 y2 y3 y4 y5 y6 w wb2 := by
  obtain ⟨g1, g2, g3, g4⟩ := id h
  have hn2 : R0 * K0 ≤ 5676 := Nat.le_trans (Nat.mul_le_mul hR.2.1 hR.2.2.2) (by decide)
  have hn : r * k ≤ R0 * K0 := Nat.mul_le_mul hr.2.1 hr.2.2.2
  have hz : 0 < r * k := Nat.mul_pos hr.1 hr.2.2.1
  have hW : ∀ (r1 k1 c1 : Nat) (s1 : Nat → Nat) (f1 q1 : Nat → Int32), (1 ≤ r1 ∧ r1 ≤ R0 ∧ 1 ≤ k1 ∧ k1 ≤ K0) → c1 < r1 * k1 → SCR (r1 * k1) f1 s1 → SCR (r1 * k1) q1 s1 → 1 ≤ gl →
      ∃ (acc lk' : Bool) (cu' od' : Nat) (sc' : Nat → Nat) (f' g' : Nat → Int32) (wl' al' : Int32) (u1 u2 : Int32) (u3 : Bool) (v1 v2 : Int32) (v3 v4 : Bool) (w' : Nat), cu' < r1 * k1 ∧ SCR (r1 * k1) f' sc' ∧ SCR (r1 * k1) g' sc' ∧ w' ≤ 22800 ∧
        f_X1_write (nI (r1 * k1)) (nI (cnt s1 0 (r1 * k1))) (nI c1) (R0 * K0) f1 wl lk sp (nI 1) x2 x3 0 al (nI gl) gn gb = some (acc, nI (cnt sc' 0 (r1 * k1)), nI cu', f', wl', lk', u1, u2, u3, nI od', al') ∧
        Option.bind (f_X6_write (nI (r1 * k1)) (nI c1) al (nI gl) (nI 1) y2 0 false y5 false q1 st) (fun x => f_X6_perform_L182 (nI R0) (nI K0) la (nI gl) st sp (nI r1) (nI k1) (nI (r1 * k1)) x.1 lk x.2.1 rj x.2.2.1 x.2.2.2.1 x.2.2.2.2.1 x.2.2.2.2.2.1 x.2.2.2.2.2.2.1 x.2.2.2.2.2.2.2.1 (nI w) x.2.2.2.2.2.2.2.2 wb2) = some (nI r1, nI k1, nI (r1 * k1), nI cu', (if acc = true then lk' else true), al', (if acc = true then rj else rj + 1), v1, v2, nI od', !acc, v3, v4, nI w', g', wb2) := by
    intro r1 k1 c1 s1 f1 q1 hb hc1 hs1 hs2 hg1
    have hz1 : 0 < r1 * k1 := Nat.mul_pos hb.1 hb.2.2.1
    have hn1 : r1 * k1 ≤ R0 * K0 := Nat.mul_le_mul hb.2.1 hb.2.2.2
    obtain ⟨ok, fr, sc', f', g', cu', od', al', a1, a2, a3, b1, b2, b3, k1_, k2, k3, k4, k5, k6⟩ := write_same hz1 hn1 hn2 hs1 hs2 h (p := 1) (by omega) hc1 sp wl lk x2 x3 al y2 y5
    rw [k5, k6, Option.bind_some]
    dsimp only
    cases ok with
    | true =>
      rw [k4 rfl, r_182 _ _ _ _ (by omega), r_204]
      cases sp with
      | true => exact ⟨false, _, cu', od', sc', f', g', _, al', _, _, _, _, _, _, _, w, k1_, k2, k3, hw, rfl, rfl⟩
      | false =>
        cases fr with
        | true => exact ⟨true, _, cu', od', sc', f', g', _, al', _, _, _, _, _, _, _, 0, k1_, k2, k3, by omega, rfl, rfl⟩
        | false => exact ⟨true, _, cu', od', sc', f', g', _, al', _, _, _, _, _, _, _, w, k1_, k2, k3, hw, rfl, rfl⟩
    | false =>
      rw [show (!false) = true from rfl, r_182t]
      exact ⟨false, _, cu', od', sc', f', g', _, al', _, _, _, _, _, _, _, w, k1_, k2, k3, hw, rfl, rfl⟩
  unfold perQ f_X1_perform f_X6_perform
  rcases Nat.eq_zero_or_pos gl with h0 | h0
  · subst h0
    rw [show f_X1_take 0 (nI 0) gn gb = (-1, nI 0) from c_take_no (p := 0) (by omega) (by omega), if_pos (show nI 0 = 0 from rfl), r35_no _ _ _ _ _ _ _ _ _ _ _ _ _ _ _ _ _ _ _ _ _ _ (by decide) (by decide) (by decide) (by decide) (by decide) (by decide) (by decide), r_182t]
    exact ⟨false, _, r, k, cu, 0, sc, f, g, _, _, _, _, _, _, _, _, _, _, _, w, _, hr, hcu, hS, hS2, hw, rfl, rfl⟩
  · have hb := (g4 0 h0).2.2
    rw [show f_X1_take 0 (nI gl) gn gb = (nI (sb 0), nI 1) from c_take h (p := 0) h0, if_neg (show ¬ nI gl = 0 from nI_ne (b := 0) (by omega) (by decide) (by omega)), show f_X6_take 0 st = some (nI (sb 0), nI 1) from r_take h (p := 0) h0, Option.bind_some]
    dsimp only [thn]
    rw [ends_eq sp h0 (by omega)]
    have rd : ∀ v : Int32, (v = 110 ∨ v = 242 ∨ v = 246) → ∀ all : Bool, all = decide (v = 242) →
        ∃ (acc : Bool) (wl' : Int32) (wn' : Nat) (wb' : Nat → Int32) (v1 v2 : Int32) (v3 v4 : Bool) (w' : Nat) (wb2' : Nat → Int32), w' ≤ 22800 ∧
          (if b2i (decide (gl = 1) && !sp) = 0 then some (false, nI r, nI k, nI (r * k), nI (cnt sc 0 (r * k)), nI cu, f, wl, wn, wb, lk, nI 1, x2, x3, (0 : Int32), al) else Option.bind (f_X4_compose (nI (r * k)) (nI (cnt sc 0 (r * k))) (nI cu) (R0 * K0) f la wl wn wb all) (fun (wl_7, w_n_7, w_bytes_7) => some (true, nI r, nI k, nI (r * k), nI (cnt sc 0 (r * k)), nI cu, f, wl_7, w_n_7, w_bytes_7, lk, nI 1, x2, x3, 0, al))) = some (acc, nI r, nI k, nI (r * k), nI (cnt sc 0 (r * k)), nI cu, f, wl', wn', wb', lk, nI 1, x2, x3, nI 0, al) ∧
          f_X6_perform_L35 (nI R0) (nI K0) la (nI gl) st sp v (nI r) (nI k) (nI (r * k)) (nI cu) lk al rj (nI 1) y2 0 false y5 false (nI w) g wb2 = some (nI r, nI k, nI (r * k), nI cu, (if acc = true then lk else true), al, (if acc = true then rj else rj + 1), v1, v2, nI 0, !acc, v3, v4, nI w', g, wb2') := by
      intro v hv all hall
      rw [r35_rd _ _ _ _ _ _ _ _ _ _ _ _ _ _ _ _ _ _ _ _ _ _ hv, ifb]
      by_cases h1 : gl = 1
      · rw [decide_eq_true h1, if_pos (show nI 1 = nI gl by rw [h1])]
        cases sp with
        | true =>
          rw [if_pos rfl, r_182t]
          exact ⟨false, _, _, _, _, _, _, _, w, _, hw, rfl, rfl⟩
        | false =>
          obtain ⟨⟨a1, a2, a3⟩, ha⟩ := c_compose hz hn hn2 hS (nI cu) la wl wn wb all
          obtain ⟨w', wb', hw1, hw2⟩ := r_answer hz (by omega) hS2 hcu (nI w) la wb2 (decide (v = 242))
          rw [ha, if_pos (show (true && !false) = true from rfl), if_neg (show ¬ false = true by decide), hw1, Option.bind_some, Option.bind_some]
          dsimp only
          rw [show nI 1 = nI gl by rw [h1], r_182 _ _ _ _ (by omega), r_204]
          exact ⟨true, _, _, _, _, _, _, _, w', _, hw2, rfl, rfl⟩
      · rw [decide_eq_false h1, if_neg (fun e => h1 ((nI_eq (by decide) (by omega)).mp e).symm), r_182t]
        exact ⟨false, _, _, _, _, _, _, _, w, _, hw, rfl, rfl⟩
    rcases Classical.em (nI (sb 0) = 110) with e1 | e1
    · rw [e1, if_pos rfl]
      obtain ⟨acc, wl', wn', wb', v1, v2, v3, v4, w', wb2', k1_, k2, k3⟩ := rd 110 (Or.inl rfl) false rfl
      rw [if_neg (show ¬ (110 : Int32) = 242 by decide), k2, k3]
      exact ⟨acc, lk, r, k, cu, 0, sc, f, g, _, _, _, _, _, _, _, _, _, _, _, w', _, hr, hcu, hS, hS2, k1_, rfl, rfl⟩
    rw [if_neg e1]
    rcases Classical.em (nI (sb 0) = 111) with e2 | e2
    · rw [e2, if_pos rfl, r35_111]
      obtain ⟨f1, hf1, hS3⟩ := c_eraseInput hz hn hn2 hS (nI cu)
      obtain ⟨q1, hq1, hS4⟩ := r_eraseInput hz (by omega) hS2 (nI cu) (nI w)
      have hcn : cnt (clP opn (dnP (r * k) sc 0) (r * k)) 0 (r * k) = cnt sc 0 (r * k) := by
        rw [clP_cnt]
        exact cnt_congr (fun j _ hj => (dnP_SA j (by omega)).1)
      rw [hf1, hq1, Option.bind_some, Option.bind_some]
      dsimp only
      by_cases h1 : gl = 1
      · rw [decide_eq_true h1, show nI 1 = nI gl by rw [h1], r_182 _ _ _ _ (by omega), r_204]
        cases sp with
        | true => exact ⟨false, _, r, k, ftt (r * k) sc 0, 0, _, f1, q1, _, _, _, _, _, _, _, _, _, _, _, 0, _, hr, ftt_lt hz, hS3, hS4, by omega, by rw [hcn]; rfl, rfl⟩
        | false => exact ⟨true, _, r, k, ftt (r * k) sc 0, 0, _, f1, q1, _, _, _, _, _, _, _, _, _, _, _, 0, _, hr, ftt_lt hz, hS3, hS4, by omega, by rw [hcn]; rfl, rfl⟩
      · rw [decide_eq_false h1]
        unfold f_X6_perform_L182
        rw [if_pos (show b2i false = 0 from rfl), if_neg (nI_ge (a := 1) (b := gl) (by omega) (by omega))]
        dsimp only [thn]
        rw [show f_X6_rejected false = true from rfl, r_204]
        exact ⟨false, _, r, k, ftt (r * k) sc 0, 0, _, f1, q1, _, _, _, _, _, _, _, _, _, _, _, 0, _, hr, ftt_lt hz, hS3, hS4, by omega, by rw [hcn]; rfl, rfl⟩
    rw [if_neg e2]
    rcases Classical.em (nI (sb 0) = 126) with e3 | e3
    · rw [e3, if_pos rfl, r35_126]
      obtain ⟨f1, hf1, hS3⟩ := c_eraseToAll (f := f) hn2 (r := R0) (c := K0) (Nat.le_refl _) (nI r) (nI k) (nI (r * k)) (nI (cnt sc 0 (r * k))) (nI cu)
      obtain ⟨q1, hq1, hS4⟩ := r_useAll (f := g) (r := R0) (c := K0) hn2 (nI r) (nI k) (nI (r * k)) (nI cu)
      rw [hf1, hq1, Option.bind_some, Option.bind_some]
      dsimp only
      obtain ⟨acc, lk', cu', od', sc', f', g', wl', al', u1, u2, u3, v1, v2, v3, v4, w', k1_, k2, k3, k4, k5, k6⟩ := hW R0 K0 0 emp f1 q1 ⟨hR.1, Nat.le_refl _, hR.2.2.1, Nat.le_refl _⟩ (Nat.mul_pos hR.1 hR.2.2.1) hS3 hS4 h0
      rw [cnt_emp] at k5
      rw [show (0 : Int32) = nI 0 from rfl] at k5 k6 ⊢
      rw [k5, k6]
      exact ⟨acc, lk', R0, K0, cu', od', sc', f', g', _, _, _, _, _, _, _, _, _, _, _, w', _, ⟨hR.1, Nat.le_refl _, hR.2.2.1, Nat.le_refl _⟩, k1_, k2, k3, k4, rfl, rfl⟩
    rw [if_neg e3]
    rcases Classical.em (nI (sb 0) = 241) with e4 | e4
    · rw [e4, if_pos rfl, r35_241]
      obtain ⟨acc, lk', cu', od', sc', f', g', wl', al', u1, u2, u3, v1, v2, v3, v4, w', k1_, k2, k3, k4, k5, k6⟩ := hW r k cu sc f g hr hcu hS hS2 h0
      rw [k5, k6]
      exact ⟨acc, lk', r, k, cu', od', sc', f', g', _, _, _, _, _, _, _, _, _, _, _, w', _, hr, k1_, k2, k3, k4, rfl, rfl⟩
    rw [if_neg e4]
    rcases Classical.em (nI (sb 0) = 242) with e5 | e5
    · rw [e5, if_pos rfl, if_pos rfl]
      obtain ⟨acc, wl', wn', wb', v1, v2, v3, v4, w', wb2', k1_, k2, k3⟩ := rd 242 (Or.inr (Or.inl rfl)) true rfl
      rw [k2, k3]
      exact ⟨acc, lk, r, k, cu, 0, sc, f, g, _, _, _, _, _, _, _, _, _, _, _, w', _, hr, hcu, hS, hS2, k1_, rfl, rfl⟩
    rw [if_neg e5]
    rcases Classical.em (nI (sb 0) = 245) with e6 | e6
    · rw [e6, if_pos rfl, r35_245]
      have hs1 : 1 ≤ sml R0 24 := by unfold sml; split <;> omega
      have hs2 : 1 ≤ sml K0 80 := by unfold sml; split <;> omega
      obtain ⟨f1, hf1, hS3⟩ := c_eraseToSmall (f := f) hn2 (r := R0) (c := K0) (by omega) (by omega) (Nat.le_refl _) (nI r) (nI k) (nI (r * k)) (nI (cnt sc 0 (r * k))) (nI cu)
      obtain ⟨q1, hq1, hS4⟩ := r_useSmall (f := g) (r := R0) (c := K0) (by omega) (by omega) hn2 (nI r) (nI k) (nI (r * k)) (nI cu)
      rw [hf1, hq1, Option.bind_some, Option.bind_some]
      dsimp only
      obtain ⟨acc, lk', cu', od', sc', f', g', wl', al', u1, u2, u3, v1, v2, v3, v4, w', k1_, k2, k3, k4, k5, k6⟩ := hW (sml R0 24) (sml K0 80) 0 emp f1 q1 ⟨hs1, sml_le.1, hs2, sml_le.1⟩ (Nat.mul_pos hs1 hs2) hS3 hS4 h0
      rw [cnt_emp] at k5
      rw [show (0 : Int32) = nI 0 from rfl] at k5 k6 ⊢
      rw [k5, k6]
      exact ⟨acc, lk', sml R0 24, sml K0 80, cu', od', sc', f', g', _, _, _, _, _, _, _, _, _, _, _, w', _, ⟨hs1, sml_le.1, hs2, sml_le.1⟩, k1_, k2, k3, k4, rfl, rfl⟩
    rw [if_neg e6]
    rcases Classical.em (nI (sb 0) = 246) with e7 | e7
    · rw [e7, if_pos rfl]
      obtain ⟨acc, wl', wn', wb', v1, v2, v3, v4, w', wb2', k1_, k2, k3⟩ := rd 246 (Or.inr (Or.inr rfl)) false rfl
      rw [if_neg (show ¬ (246 : Int32) = 242 by decide), k2, k3]
      exact ⟨acc, lk, r, k, cu, 0, sc, f, g, _, _, _, _, _, _, _, _, _, _, _, w', _, hr, hcu, hS, hS2, k1_, rfl, rfl⟩
    rw [if_neg e7, r35_no _ _ _ _ _ _ _ _ _ _ _ _ _ _ _ _ _ _ _ _ _ _ e1 e2 e3 e4 e5 e6 e7, r_182t]
    exact ⟨false, _, r, k, cu, 0, sc, f, g, _, _, _, _, _, _, _, _, _, _, _, w, _, hr, hcu, hS, hS2, hw, rfl, rfl⟩
end PR2
