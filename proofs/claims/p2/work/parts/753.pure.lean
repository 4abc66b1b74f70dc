/-! Erasing to another screen. -/
section P13
variable {n : Nat} {f : Nat → Int32}
abbrev emp : Nat → Nat := fun _ => 0
theorem cnt_emp : ∀ m i, cnt emp i m = 0 := fun m i => cnt_0.mpr (fun _ _ _ => rfl)
theorem r_use72 (a b : Int32) {z : Nat} (hz2 : z ≤ 5676) (rr cc cu : Int32) :
    ∃ g, f_X6_use_L72 a b FU 0 rr cc (nI z) cu f = some (rr, cc, nI z, cu, g) ∧ SCR z g emp := by
  have key : ∀ fu i g, i ≤ z → z - i < fu → SCR i g emp → ∃ g', f_X6_use_L72 a b fu (nI i) rr cc (nI z) cu g = some (rr, cc, nI z, cu, g') ∧ SCR z g' emp := by
    intro fu
    induction fu with
    | zero => intro i g _ h; omega
    | succ fu ih =>
      intro i g hi hf hg
      rw [f_X6_use_L72.eq_2]
      by_cases e : i = z
      · subst e
        rw [if_pos (nI_le (Nat.le_refl _) (by omega))]
        exact ⟨g, rfl, hg⟩
      · rw [if_neg (nI_ge (by omega) (by omega)), if_neg (cl_in (by omega)), nI_clamp (by omega), nI_1]
        refine ih (i + 1) _ (by omega) (by omega) (fun j hj => ⟨?_, by show (0 : Nat) < 512; omega⟩)
        show upd g i 0 j = nI 0
        by_cases ej : j = i
        · subst ej
          rw [nI_0]
          simp [upd]
        · rw [show upd g i 0 j = g j by simp [upd, ej]]
          exact (hg j (by omega)).1
  have h := key FU 0 f (Nat.zero_le _) (FU_big (by omega)) (fun j hj => by omega)
  rw [nI_0] at h
  exact h
theorem c_fillAll (hn2 : n ≤ 5676) : ∃ g, f_J7_fill_53178 n f 0 = some g ∧ SCR n g emp := by
  unfold f_J7_fill_53178
  have key : ∀ fu i g, i ≤ n → n - i < fu → SCR i g emp → ∃ g', f_J7_fill_53178_L5 n fu 0 (nI i) (nI n) g = some g' ∧ SCR n g' emp := by
    intro fu
    induction fu with
    | zero => intro i g _ h; omega
    | succ fu ih =>
      intro i g hi hf hg
      rw [f_J7_fill_53178_L5.eq_2]
      by_cases e : i = n
      · subst e
        rw [if_pos (nI_le (Nat.le_refl _) (by omega))]
        exact ⟨g, rfl, hg⟩
      · rw [if_neg (nI_ge (by omega) (by omega)), if_neg (nI_in (by omega) (by omega)), nI_clamp (by omega), nI_1]
        refine ih (i + 1) _ (by omega) (by omega) (fun j hj => ⟨?_, by show (0 : Nat) < 512; omega⟩)
        show upd g i 0 j = nI 0
        by_cases ej : j = i
        · subst ej
          rw [nI_0]
          simp [upd]
        · rw [show upd g i 0 j = g j by simp [upd, ej]]
          exact (hg j (by omega)).1
  have h := key FU 0 f (Nat.zero_le _) (FU_big (by omega)) (fun j hj => by omega)
  rw [nI_0] at h
  exact h
def sml (a b : Nat) : Nat := if a ≤ b then a else b
theorem sml_le {a b : Nat} : sml a b ≤ a ∧ sml a b ≤ b := by
  unfold sml
  by_cases h : a ≤ b
  · rw [if_pos h]; omega
  · rw [if_neg h]; omega
theorem sml_pos {a b : Nat} (ha : 0 < a) (hb : 0 < b) : 0 < sml a b := by
  unfold sml
  by_cases h : a ≤ b
  · rw [if_pos h]; omega
  · rw [if_neg h]; omega
theorem c_eraseTo (hn2 : n ≤ 5676) {r c : Nat} (hrc : r * c ≤ n) (r0 c0 z0 f0 u0 : Int32) :
    ∃ g, f_X3_eraseTo r0 c0 z0 f0 u0 n f (nI r) (nI c) = some (nI r, nI c, nI (r * c), 0, 0, g) ∧ SCR (r * c) g emp := by
  obtain ⟨g, h1, h2⟩ := c_fillAll (f := f) hn2
  refine ⟨g, ?_, fun j hj => h2 j (by omega)⟩
  unfold f_X3_eraseTo
  rw [h1, nI_ml]
  rfl
theorem c_eraseToAll (hn2 : n ≤ 5676) {r c : Nat} (hrc : r * c ≤ n) (r0 c0 z0 f0 u0 : Int32) :
    ∃ g, f_X3_eraseToAll (nI r) (nI c) r0 c0 z0 f0 u0 n f = some (nI r, nI c, nI (r * c), 0, 0, g) ∧ SCR (r * c) g emp := by
  obtain ⟨g, h1, h2⟩ := c_eraseTo (f := f) hn2 hrc r0 c0 z0 f0 u0
  refine ⟨g, ?_, h2⟩
  unfold f_X3_eraseToAll
  rw [h1]
  rfl
theorem sml_C {a b : Nat} (ha : a ≤ 5676) (hb : b ≤ 5676) : (if nI a < nI b then nI a else nI b) = nI (sml a b) := by
  unfold sml
  by_cases h : a < b
  · rw [if_pos (nI_lt h (by omega)), if_pos (by omega)]
  · rw [if_neg (Int32.not_lt.mpr (nI_le (by omega) (by omega)))]
    by_cases h2 : a ≤ b
    · rw [if_pos h2, show a = b by omega]
    · rw [if_neg h2]
theorem c_eraseToSmall (hn2 : n ≤ 5676) {r c : Nat} (hr : r ≤ 5676) (hc : c ≤ 5676) (hrc : r * c ≤ n) (r0 c0 z0 f0 u0 : Int32) :
    ∃ g, f_X3_eraseToSmall (nI r) (nI c) r0 c0 z0 f0 u0 n f = some (nI (sml r 24), nI (sml c 80), nI (sml r 24 * sml c 80), 0, 0, g) ∧ SCR (sml r 24 * sml c 80) g emp := by
  have hle : sml r 24 * sml c 80 ≤ r * c := Nat.mul_le_mul sml_le.1 sml_le.1
  obtain ⟨g, h1, h2⟩ := c_eraseTo (f := f) hn2 (r := sml r 24) (c := sml c 80) (by omega) r0 c0 z0 f0 u0
  refine ⟨g, ?_, h2⟩
  unfold f_X3_eraseToSmall
  have e1 : (if nI r < (24 : Int32) then nI r else 24) = nI (sml r 24) := sml_C (b := 24) hr (by omega)
  have e2 : (if nI c < (80 : Int32) then nI c else 80) = nI (sml c 80) := sml_C (b := 80) hc (by omega)
  rw [e1, e2, h1]
  rfl
theorem r_useAll {r c : Nat} (hrc : r * c ≤ 5676) (r0 c0 z0 u0 : Int32) :
    ∃ g, f_X6_use (nI r) (nI c) r0 c0 z0 u0 f false = some (nI r, nI c, nI (r * c), 0, g) ∧ SCR (r * c) g emp := by
  unfold f_X6_use
  simp only [ifb]
  rw [if_neg (by decide)]
  unfold f_X6_use_L23
  simp only [ifb]
  rw [if_neg (by decide), nI_ml]
  exact r_use72 _ _ hrc _ _ _
theorem r_useSmall {r c : Nat} (hr : r ≤ 5676) (hc : c ≤ 5676) (hrc : r * c ≤ 5676) (r0 c0 z0 u0 : Int32) :
    ∃ g, f_X6_use (nI r) (nI c) r0 c0 z0 u0 f true = some (nI (sml r 24), nI (sml c 80), nI (sml r 24 * sml c 80), 0, g) ∧ SCR (sml r 24 * sml c 80) g emp := by
  have hle : sml r 24 * sml c 80 ≤ r * c := Nat.mul_le_mul sml_le.1 sml_le.1
  have key : ∀ a : Nat, a * sml c 80 ≤ 5676 → ∃ g, f_X6_use_L23 (nI r) (nI c) true (nI a) r0 c0 z0 u0 f = some (nI a, nI (sml c 80), nI (a * sml c 80), 0, g) ∧ SCR (a * sml c 80) g emp := by
    intro a ha
    unfold f_X6_use_L23
    simp only [ifb]
    rw [if_pos trivial]
    unfold sml at ha ⊢
    by_cases h : c ≤ 80
    · rw [if_pos h] at ha ⊢
      rw [if_pos (show nI c ≤ (80 : Int32) from nI_le (b := 80) h (by omega)), nI_ml]
      exact r_use72 _ _ ha _ _ _
    · rw [if_neg h] at ha ⊢
      rw [if_neg (show ¬ nI c ≤ (80 : Int32) from nI_ge (a := 80) (by omega) (by omega)), show (80 : Int32) = nI 80 by decide, nI_ml]
      exact r_use72 _ _ ha _ _ _
  unfold f_X6_use
  simp only [ifb]
  rw [if_pos trivial]
  have k2 := key (sml r 24) (by omega)
  unfold sml at k2 ⊢
  by_cases h : r ≤ 24
  · rw [if_pos h] at k2 ⊢
    rw [if_pos (show nI r ≤ (24 : Int32) from nI_le (b := 24) h (by omega))]
    exact k2
  · rw [if_neg h] at k2 ⊢
    rw [if_neg (show ¬ nI r ≤ (24 : Int32) from nI_ge (a := 24) (by omega) (by omega)), show (24 : Int32) = nI 24 by decide]
    exact k2
end P13
