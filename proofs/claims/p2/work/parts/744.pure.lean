/-! Writes on the screen, both sides. -/
def upN (sc : Nat → Nat) (k v : Nat) : Nat → Nat := fun j => if j = k then v else sc j
theorem upN_s {sc : Nat → Nat} {k v : Nat} : upN sc k v k = v := if_pos rfl
theorem upN_n {sc : Nat → Nat} {k v j : Nat} (h : j ≠ k) : upN sc k v j = sc j := if_neg h
theorem SCR.upd {z : Nat} {f : Nat → Int32} {sc : Nat → Nat} (hS : SCR z f sc) {k v : Nat} (hv : v < 512) : SCR z (upd f k (nI v)) (upN sc k v) := by
  intro j hj
  by_cases e : j = k
  · subst e; rw [pk_us, upN_s]; exact ⟨rfl, hv⟩
  · rw [pk_un e, upN_n e]; exact hS j hj
def b1 (b : Bool) : Nat := if b = true then 1 else 0
theorem cnt_congr {sc sd : Nat → Nat} : ∀ {m i : Nat}, (∀ j, i ≤ j → j < i + m → atb sc j = atb sd j) → cnt sc i m = cnt sd i m := by
  intro m
  induction m with
  | zero => intro i _; rfl
  | succ m ih =>
    intro i h
    unfold cnt
    rw [h i (Nat.le_refl _) (by omega), ih (fun j a b => h j (by omega) (by omega))]
theorem cnt_upN {sc : Nat → Nat} {k v : Nat} : ∀ {m i : Nat}, i ≤ k → k < i + m → cnt (upN sc k v) i m + b1 (atb sc k) = cnt sc i m + b1 (decide (256 ≤ v)) := by
  intro m
  induction m with
  | zero => intro i a b; omega
  | succ m ih =>
    intro i a b
    unfold cnt
    by_cases e : i = k
    · subst e
      have h1 : cnt (upN sc i v) (i + 1) m = cnt sc (i + 1) m := cnt_congr (fun j a b => by unfold atb; rw [upN_n (by omega)])
      have h2 : atb (upN sc i v) i = decide (256 ≤ v) := by unfold atb; rw [upN_s]
      rw [h1, h2]
      unfold b1
      omega
    · have h2 : atb (upN sc k v) i = atb sc i := by unfold atb; rw [upN_n e]
      have := ih (i := i + 1) (by omega) (by omega)
      rw [h2]
      omega
theorem cnt_pos {sc : Nat → Nat} {z k : Nat} (hk : k < z) (h : atb sc k = true) : 0 < cnt sc 0 z := by
  rcases Nat.eq_zero_or_pos (cnt sc 0 z) with e | e
  · rw [cnt_0.mp e k (Nat.zero_le _) (by omega)] at h; cases h
  · exact e
section P4
variable {z n : Nat} {f : Nat → Int32} {sc : Nat → Nat} {k v : Nat}
theorem c_put (hz : 0 < z) (hn : z ≤ n) (hn2 : n ≤ 5676) (hS : SCR z f sc) (hk : k < z) (hv : v < 512) : f_X3_put (nI (cnt sc 0 z)) n f (nI k) (nI v) = (nI (cnt (upN sc k v) 0 z), upd f k (nI v)) := by
  unfold f_X3_put
  have hc := cnt_le sc z 0
  have hu := cnt_upN (sc := sc) (v := v) (m := z) (i := 0) (Nat.zero_le k) (by omega)
  rw [if_neg (nI_pos (by omega)), if_pos (nI_lt (by omega) (by omega)), nI_clamp (by omega), (hS k hk).1, ifA (hS k hk).2, ifA hv, ifA hv]
  show (if atb sc k = true then _ else _) = _
  by_cases ha : atb sc k = true
  · have hp := cnt_pos hk ha
    have e1 : nI (cnt sc 0 z) - 1 = nI (cnt sc 0 z - 1) := pk_sub (b := 1) hp
    rw [if_pos ha, e1]
    by_cases hb : 256 ≤ v
    · rw [if_pos (by simpa using hb), nI_1]
      unfold b1 at hu
      rw [if_pos ha, if_pos (by simpa using hb)] at hu
      rw [show cnt sc 0 z - 1 + 1 = cnt (upN sc k v) 0 z by omega]
    · rw [if_neg (by simpa using hb)]
      unfold b1 at hu
      rw [if_pos ha, if_neg (by simpa using hb)] at hu
      rw [show cnt sc 0 z - 1 = cnt (upN sc k v) 0 z by omega]
  · rw [if_neg ha]
    by_cases hb : 256 ≤ v
    · rw [if_pos (by simpa using hb), nI_1]
      unfold b1 at hu
      rw [if_neg ha, if_pos (by simpa using hb)] at hu
      rw [show cnt sc 0 z + 1 = cnt (upN sc k v) 0 z by omega]
    · rw [if_neg (by simpa using hb)]
      unfold b1 at hu
      rw [if_neg ha, if_neg (by simpa using hb)] at hu
      rw [show cnt sc 0 z = cnt (upN sc k v) 0 z by omega]
theorem r_put (hz : 0 < z) (hz2 : z ≤ 5676) (hk : k < z) (x : Int32) : f_X6_put (nI z) (nI k) f x = some (nI ((k + 1) % z), upd f k x) := by
  unfold f_X6_put
  rw [if_neg (cl_in (by omega)), nI_1, rndA hz hz2 (by omega), nI_clamp (by omega)]
  rfl
/-- v into m cells from k on, round -/
def flN (z k v : Nat) (m : Nat) (sc : Nat → Nat) : Nat → Nat := itr (fun i s => upN s ((k + i) % z) v) 0 m sc
/-- the machine's rows, beside the naturals -/
def flF (z k : Nat) (x : Int32) (m : Nat) (f : Nat → Int32) : Nat → Int32 := itr (fun i g => upd g ((k + i) % z) x) 0 m f
theorem itr_2 {α β : Type} {R : α → β → Prop} {s : Nat → α → α} {t : Nat → β → β} (h : ∀ i a b, R a b → R (s i a) (t i b)) : ∀ m i a b, R a b → R (itr s i m a) (itr t i m b) := by
  intro m
  induction m with
  | zero => intro i a b h0; exact h0
  | succ m ih => intro i a b h0; exact ih (i + 1) _ _ (h i a b h0)
theorem fl_SCR {m : Nat} (hS : SCR z f sc) (hv : v < 512) : SCR z (flF z k (nI v) m f) (flN z k v m sc) :=
  itr_2 (R := fun g s => SCR z g s) (s := fun i g => upd g ((k + i) % z) (nI v)) (t := fun i s => upN s ((k + i) % z) v) (fun i g s h => h.upd hv) m 0 f sc hS
theorem c_fill (hz : 0 < z) (hn : z ≤ n) (hn2 : n ≤ 5676) (hS : SCR z f sc) (hk : k < z) (hv : v < 512) {m : Nat} (hm : m ≤ 6000) :
    f_X3_fill (nI z) (nI (cnt sc 0 z)) n f (nI k) (nI m) (nI v) = some (nI (cnt (flN z k v m sc) 0 z), flF z k (nI v) m f) := by
  unfold f_X3_fill flN flF
  have key : ∀ fu i g s, i ≤ m → m - i < fu → SCR z g s → f_X3_fill_L6 (nI z) n fu (nI m) (nI v) (nI ((k + i) % z)) (nI i) (nI (cnt s 0 z)) g = some (nI (cnt (itr (fun i s => upN s ((k + i) % z) v) i (m - i) s) 0 z), itr (fun i g => upd g ((k + i) % z) (nI v)) i (m - i) g) := by
    intro fu
    induction fu with
    | zero => intro i g s _ h; omega
    | succ fu ih =>
      intro i g s hi hf hg
      rw [f_X3_fill_L6.eq_2]
      by_cases e : i = m
      · subst e
        rw [if_pos (nI_le (Nat.le_refl _) (by omega)), Nat.sub_self]
        rfl
      · have hm' : (k + i) % z < z := Nat.mod_lt _ hz
        rw [if_neg (nI_ge (by omega) (by omega)), c_put hz hn hn2 hg hm' hv]
        obtain ⟨m', hmm⟩ : ∃ m', m - i = m' + 1 := ⟨m - i - 1, by omega⟩
        rw [hmm]
        show f_X3_fill_L6 (nI z) n fu (nI m) (nI v) (f_X3_after (nI z) (nI ((k + i) % z))) (nI i + 1) _ _ = _
        rw [c_after (by omega) hm', Nat.mod_add_mod, nI_1, Nat.add_assoc, ih (i + 1) _ _ (by omega) (by omega) (hg.upd hv), show m - (i + 1) = m' by omega]
        rfl
  have h := key FU 0 f sc (Nat.zero_le _) (FU_big (by omega)) hS
  rw [Nat.add_zero, Nat.mod_eq_of_lt hk, nI_0, Nat.sub_zero] at h
  exact h
theorem c_markModified (hz : 0 < z) (hn : z ≤ n) (hn2 : n ≤ 5676) (hS : SCR z f sc) (hk : k < z) :
    f_X3_markModified (nI z) (nI (cnt sc 0 z)) n f (nI k) = some (match hm z sc k with | some h => (nI (cnt (upN sc h (sc h ||| 1)) 0 z), upd f h (nI (sc h ||| 1))) | none => (nI (cnt sc 0 z), f)) := by
  unfold f_X3_markModified
  rw [c_startOver hz hn hn2 hS hk]
  simp only [Option.bind_some]
  cases e : hm z sc k with
  | none => rfl
  | some h =>
    obtain ⟨h1, h2⟩ := hm_lt hz e
    rw [if_neg (fun q => by have := (oI_m1 (o := some h) (fun k q => by cases q; omega)).mp q; cases this)]
    have e1 : nI (sc h) ||| 1 = nI (sc h ||| 1) := by
      have key : ∀ a, a < 512 → nI a ||| 1 = nI (a ||| 1) := by decide +kernel
      exact key _ (hS h h1).2
    have hv : sc h ||| 1 < 512 := by
      have key : ∀ a, a < 512 → a ||| 1 < 512 := by decide +kernel
      exact key _ (hS h h1).2
    show thn (f_X3_put (nI (cnt sc 0 z)) n f (nI h) (f_X3_get n f (nI h) ||| 1)) _ = _
    rw [c_get hn hn2 hS h1, e1, c_put hz hn hn2 hS h1 hv]
    rfl
theorem r_modify (hz : 0 < z) (hz2 : z ≤ 5676) (hS : SCR z f sc) (hk : k < z) : f_X6_modify (nI z) f (nI k) = some (match hm z sc k with | some h => upd f h (nI (sc h ||| 1)) | none => f) := by
  unfold f_X6_modify
  rw [r_home hz hz2 hS hk]
  simp only [Option.bind_some]
  cases e : hm z sc k with
  | none => rfl
  | some h =>
    obtain ⟨h1, h2⟩ := hm_lt hz e
    rw [if_neg (fun q => by have := (oI_m1 (o := some h) (fun k q => by cases q; omega)).mp q; cases this)]
    have e1 : nI (sc h) ||| 1 = nI (sc h ||| 1) := by
      have key : ∀ a, a < 512 → nI a ||| 1 = nI (a ||| 1) := by decide +kernel
      exact key _ (hS h h1).2
    show (if nI h < 0 ∨ 5676 ≤ (nI h).toNatClampNeg then none else _) = _
    rw [if_neg (cl_in (by omega))]
    show some (upd f (nI h).toNatClampNeg (f (nI h).toNatClampNeg ||| 1)) = _
    rw [nI_clamp (by omega), (hS h h1).1, e1]
end P4
