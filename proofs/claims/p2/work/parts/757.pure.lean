/-! Keys 48, 49, 50, 52: both sides. -/
section P17
variable {z n c : Nat} {f : Nat → Int32} {s : Nat → Nat} {k : Nat}
def erN (z : Nat) (s : Nat → Nat) (k : Nat) : Nat → Nat := mdf z (flN z k 0 (toE z s k) s) k
def deN (z c : Nat) (s : Nat → Nat) (k : Nat) : Nat → Nat := mdf z (rmP s k (mrm z c s k) (mrm z c s k)) k
theorem c_key49 (hz : 0 < z) (hn : z ≤ n) (hn2 : n ≤ 5676) (hS : SCR z f s) (cc w : Int32) (lk ins : Bool) :
    ∃ g, f_X2_edit cc (nI z) (nI (cnt s 0 z)) (nI k) n f w lk ins 49 = some (1, nI (cnt (clP opn (dnP z s 0) z) 0 z), nI (ftt z s 0), g, 0, lk, ins) ∧ SCR z g (clP opn (dnP z s 0) z) := by
  obtain ⟨g, h1, h2⟩ := c_eraseInput hz hn hn2 hS (nI k)
  refine ⟨g, ?_, h2⟩
  have hc : cnt (clP opn (dnP z s 0) z) 0 z = cnt s 0 z := by
    rw [clP_cnt]
    exact cnt_congr (fun j _ hj => (dnP_SA j (by omega)).1)
  unfold f_X2_edit
  rw [if_pos rfl, h1, hc]
  rfl
theorem c_key50 (cc zz ff0 kk w : Int32) (lk ins : Bool) : f_X2_edit cc zz ff0 kk n f w lk ins 50 = some (1, ff0, kk, f, w, lk, true) := by
  unfold f_X2_edit
  rw [if_neg (by decide), if_pos rfl]
theorem c_keyNo (hz : 0 < z) (hn : z ≤ n) (hn2 : n ≤ 5676) (hS : SCR z f s) (hk : k < z) (cc w : Int32) (lk ins : Bool) {a : Int32} (h1 : a ≠ 49) (h2 : a ≠ 50) (hb : mbt z s k = false) :
    f_X2_edit cc (nI z) (nI (cnt s 0 z)) (nI k) n f w lk ins a = some (0, nI (cnt s 0 z), nI k, f, w, true, ins) := by
  unfold f_X2_edit
  rw [if_neg h1, if_neg h2, c_mayBeTypedIn hz hn hn2 hS hk, hb]
  rfl
theorem c_key48 (hz : 0 < z) (hn : z ≤ n) (hn2 : n ≤ 5676) (hS : SCR z f s) (hk : k < z) (cc w : Int32) (lk ins : Bool) (hb : mbt z s k = true) :
    ∃ g, f_X2_edit cc (nI z) (nI (cnt s 0 z)) (nI k) n f w lk ins 48 = some (1, nI (cnt (erN z s k) 0 z), nI k, g, w, lk, ins) ∧ SCR z g (erN z s k) := by
  have h6 := toE_le (z := z) (sc := s) (k := k)
  obtain ⟨g, h1, h2⟩ := c_mdf hz hn hn2 (fl_SCR (k := k) (v := 0) (m := toE z s k) hS (by omega)) hk
  refine ⟨g, ?_, h2⟩
  have e := c_fill (v := 0) (m := toE z s k) hz hn hn2 hS hk (by omega) (by omega)
  rw [show ((nI 0) : Int32) = 0 from nI_0] at e h1
  unfold f_X2_edit
  rw [if_neg (by decide), if_neg (by decide), c_mayBeTypedIn hz hn hn2 hS hk, hb]
  show Option.bind (f_X3_cellsToFieldEnd (nI z) (nI (cnt s 0 z)) n f (nI k)) _ = _
  rw [c_toEnd hz hn hn2 hS hk]
  show Option.bind (f_X3_fill (nI z) (nI (cnt s 0 z)) n f (nI k) (nI (toE z s k)) 0) _ = _
  rw [e]
  show Option.bind (f_X3_markModified (nI z) (nI (cnt (flN z k 0 (toE z s k) s) 0 z)) n (flF z k 0 (toE z s k) f) (nI k)) _ = _
  rw [h1]
  rfl
theorem c_key52 (hz : 0 < z) (hn : z ≤ n) (hn2 : n ≤ 5676) (hS : SCR z f s) (hc : 0 < c) (hzc : c ∣ z) (hk : k < z) (w : Int32) (lk ins : Bool) (hb : mbt z s k = true) :
    ∃ g, f_X2_edit (nI c) (nI z) (nI (cnt s 0 z)) (nI k) n f w lk ins 52 = some (1, nI (cnt (deN z c s k) 0 z), nI k, g, w, lk, ins) ∧ SCR z g (deN z c s k) := by
  obtain ⟨m1, m2, m3⟩ := mrm_ok hz hc hzc hk (mbt_atb hb)
  obtain ⟨g1, p1, p2⟩ := c_remove hz hn hn2 hS hc hzc hk (mbt_atb hb)
  obtain ⟨g, h1, h2⟩ := c_mdf hz hn hn2 p2 hk
  rw [cnt_congr (sd := s) (fun j _ _ => rmP_atb m3 (Nat.le_refl _) j)] at h1
  refine ⟨g, ?_, h2⟩
  unfold f_X2_edit
  rw [if_neg (by decide), if_neg (by decide), c_mayBeTypedIn hz hn hn2 hS hk, hb]
  show Option.bind (f_X3_remove (nI c) (nI z) (nI (cnt s 0 z)) n f (nI k)) _ = _
  rw [p1]
  show Option.bind (f_X3_markModified (nI z) (nI (cnt s 0 z)) n g1 (nI k)) _ = _
  rw [h1]
  rfl
theorem r_key48 (hz : 0 < z) (hz2 : z ≤ 5676) (hS : SCR z f s) (hk : k < z) (lk : Bool) (hb : mbt z s k = true) :
    ∃ g, f_X6_eraseToEnd (nI z) (nI k) lk f = some (1, lk, g) ∧ SCR z g (erN z s k) := by
  obtain ⟨g, h1, h2⟩ := r_mdf hz hz2 (fl_SCR (k := k) (v := 0) (m := toE z s k) hS (by omega)) hk
  refine ⟨g, ?_, h2⟩
  rw [r_eraseToEnd hz hz2 hS hk lk hb, h1]
  rfl
theorem r_key48No (hz : 0 < z) (hz2 : z ≤ 5676) (hS : SCR z f s) (hk : k < z) (lk : Bool) (hb : mbt z s k = false) : f_X6_eraseToEnd (nI z) (nI k) lk f = some (0, true, f) := by
  unfold f_X6_eraseToEnd
  rw [r_mayBeTyped hz hz2 hS hk, hb]
  rfl
theorem r_key52 (hz : 0 < z) (hz2 : z ≤ 5676) (hS : SCR z f s) (hc : 0 < c) (hzc : c ∣ z) (hk : k < z) (lk : Bool) (hb : mbt z s k = true) :
    ∃ g, f_X6_deleteSign (nI c) (nI z) (nI k) lk f = some (1, lk, g) ∧ SCR z g (deN z c s k) := by
  obtain ⟨g1, p1, p2⟩ := r_deleteSign hz hz2 hS hc hzc hk lk hb
  obtain ⟨g, h1, h2⟩ := r_mdf hz hz2 p2 hk
  refine ⟨g, ?_, h2⟩
  rw [p1, h1]
  rfl
theorem r_key52No (hz : 0 < z) (hz2 : z ≤ 5676) (hS : SCR z f s) (hk : k < z) (cc : Int32) (lk : Bool) (hb : mbt z s k = false) : f_X6_deleteSign cc (nI z) (nI k) lk f = some (0, true, f) := by
  unfold f_X6_deleteSign
  rw [r_mayBeTyped hz hz2 hS hk, hb]
  rfl
end P17
