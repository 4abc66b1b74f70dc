/-! Writing: the loop over signs and orders, both sides at once. -/
section WRT
variable {z n : Nat} {gl gn : Nat} {gb st : Nat → Int32} {sb : Nat → Nat}
/-- what freeing does -/
def frW (b : Bool) (wl : Int32) : Int32 := if b = true then 0 else wl
def frL (b : Bool) (lk : Bool) : Bool := if b = true then false else lk
def c2 (v : Int32) : Bool := !decide (v &&& 2 = 0)
theorem wr_end (v1 : Int32) (sp : Bool) (sF cu : Int32) (sC : Nat → Int32) (wl : Int32) (lk : Bool) (hp pl : Int32) (sj : Bool) (od al : Int32) :
    (if b2i sp = 0 then
      if v1 &&& 2 = 0 then some (true, sF, cu, sC, wl, lk, hp, pl, sj, od, al)
      else thn (f_X1_freeKeyboard wl lk) (fun (wl_4, lk_4) => some (true, sF, cu, sC, wl_4, lk_4, hp, pl, sj, od, al))
    else some (false, sF, cu, sC, wl, lk, hp, pl, sj, od, al)) = some (true && !sp, sF, cu, sC, frW ((true && !sp) && c2 v1) wl, frL ((true && !sp) && c2 v1) lk, hp, pl, sj, od, al) := by
  cases sp with
  | true => rfl
  | false =>
    rw [if_pos (show b2i false = 0 from rfl)]
    unfold c2
    by_cases h : v1 &&& 2 = 0
    · rw [if_pos h, decide_eq_true h]; rfl
    · rw [if_neg h, decide_eq_false h]; rfl
theorem wr_same (hz : 0 < z) (hn : z ≤ n) (hn2 : n ≤ 5676) (h : STR gl gn gb st sb) (sp : Bool) (v1 : Int32) (wl : Int32) (lk : Bool) (al al2 : Int32) (fr : Bool) :
    ∀ (fu i p pl cu od : Nat) (sc : Nat → Nat) (f g : Nat → Int32) (sj : Bool), gl + 1 < fu + p → i ≤ p → p ≤ gl → pl < z → cu < z → SCR z f sc → SCR z g sc →
    ∃ (ok : Bool) (sc' : Nat → Nat) (f' g' : Nat → Int32) (cu' od' : Nat) (x1 x2 : Int32) (x3 : Bool) (y1 y2 : Int32) (y3 : Bool), cu' < z ∧ SCR z f' sc' ∧ SCR z g' sc' ∧ (ok = true → y1 = nI gl) ∧
      f_X1_write_L59 (nI z) n sp (nI gl) gn gb fu v1 (nI i) (nI (cnt sc 0 z)) (nI cu) f wl lk (nI p) (nI pl) sj (nI od) al = some (ok && !sp, nI (cnt sc' 0 z), nI cu', f', frW ((ok && !sp) && c2 v1) wl, frL ((ok && !sp) && c2 v1) lk, x1, x2, x3, nI od', al) ∧
      f_X6_write_L99 (nI z) (nI gl) st fu (nI cu) al2 (nI p) (nI pl) (nI od) false sj fr g = some (nI cu', al2, y1, y2, nI od', !ok, y3, fr, g') := by
  obtain ⟨g1, g2, g3, g4⟩ := id h
  intro fu
  induction fu with
  | zero => intro i p pl cu od sc f g sj h1 h2 h3; omega
  | succ fu ih =>
    intro i p pl cu od sc f g sj h1 h2 h3 h4 h5 hS hS2
    rw [f_X1_write_L59.eq_2, f_X6_write_L99.eq_2, wr_end, if_pos (show b2i false = 0 from rfl)]
    rcases Nat.lt_or_ge p gl with h6 | h6
    · have hb := (g4 p h6).2.2
      rw [if_neg (show ¬ (8192 : Int32) ≤ nI i from nI_ge (b := 8192) (by omega) (by decide)), if_neg (nI_ge h6 (by omega)), if_neg (nI_ge h6 (by omega)), c_take h h6, r_take h h6]
      dsimp only [thn, Option.bind_some]
      rw [← sign_same, sgn_nat hb, nI_1]
      by_cases hs : sb p = 0 ∨ 64 ≤ sb p
      · rw [decide_eq_true hs, if_neg (show ¬ b2i true = 0 by decide), if_neg (show ¬ b2i true = 0 by decide), c_pago hz hn hn2 hS h4 (by omega), r_put hz (by omega) h4]
        dsimp only [Option.bind_some]
        rw [if_neg (show ¬ b2i true = 0 by decide), if_neg (show ¬ b2i true = 0 by decide)]
        exact ih (i + 1) (p + 1) _ cu od _ _ _ true (by omega) (by omega) (by omega) (Nat.mod_lt _ hz) h5 (hS.upd (by omega)) (hS2.upd (by omega))
      · rw [decide_eq_false hs, if_pos (show b2i false = 0 from rfl), if_pos (show b2i false = 0 from rfl)]
        rcases ord_same hz hn hn2 hS hS2 h (p := p + 1) (by omega) h4 h5 sj (sb p) od with ⟨sc', f', g', q, pl', cu', k1, k2, k3, k4, k5, k6, k7, k8⟩ | ⟨q, pl', q2, pl2, k7, k8⟩
        · rw [k7, k8]
          dsimp only [Option.bind_some]
          rw [if_neg (show ¬ b2i true = 0 by decide), if_pos (show b2i false = 0 from rfl), if_pos (show b2i false = 0 from rfl), nI_1]
          rcases Classical.em (nI (sb p) = 8) with h8 | h8
          · rw [if_pos h8, if_pos h8]
            exact ih (i + 1) q pl' cu' (od + 1) sc' f' g' true (by omega) (by omega) k2 k3 k4 k5 k6
          · rw [if_neg h8, if_neg h8]
            exact ih (i + 1) q pl' cu' (od + 1) sc' f' g' false (by omega) (by omega) k2 k3 k4 k5 k6
        · rw [k7, k8]
          dsimp only [Option.bind_some]
          rw [if_pos (show b2i false = 0 from rfl), if_pos (show b2i false = 0 from rfl)]
          obtain ⟨fu, rfl⟩ : ∃ fu', fu = fu' + 1 := ⟨fu - 1, by omega⟩
          rw [f_X6_write_L99.eq_2, f_X6_write_L99.eq_2, if_neg (show ¬ b2i true = 0 by decide), if_neg (show ¬ b2i true = 0 by decide)]
          rcases Classical.em (nI (sb p) = 8) with h8 | h8
          · rw [if_pos h8]
            exact ⟨false, sc, f, g, cu, od, _, _, _, _, _, _, h5, hS, hS2, (fun e => by cases e), rfl, rfl⟩
          · rw [if_neg h8]
            exact ⟨false, sc, f, g, cu, od, _, _, _, _, _, _, h5, hS, hS2, (fun e => by cases e), rfl, rfl⟩
    · have hpg : p = gl := by omega
      subst hpg
      rw [if_pos ((nI_leI (by omega) (by omega)).mpr (Nat.le_refl p)), if_pos ((nI_leI (by omega) (by omega)).mpr (Nat.le_refl p)), ite_self]
      exact ⟨true, sc, f, g, cu, od, _, _, _, _, _, _, h5, hS, hS2, (fun _ => rfl), rfl, rfl⟩
end WRT
