/-! Emptying what may be typed in, both sides. -/
/-- the same attributes, as far as being protected goes -/
def SA (z : Nat) (s t : Nat → Nat) : Prop := ∀ j, j < z → atb s j = atb t j ∧ (atb t j = true → prot (s j) = prot (t j))
theorem SA.refl {z : Nat} {s : Nat → Nat} : SA z s s := fun _ _ => ⟨rfl, fun _ => rfl⟩
theorem hm_congr {z : Nat} {s t : Nat → Nat} (hz : 0 < z) (h : ∀ j, j < z → atb s j = atb t j) (k : Nat) : hm z s k = hm z t k := by
  unfold hm
  rw [ff_congr (fun j _ _ => h _ (Nat.mod_lt _ hz))]
theorem prot_sub {a : Nat} (h : 256 ≤ a) : prot (a - 256) = prot a := by
  have := prot_256 (a - 256)
  rw [show a - 256 + 256 = a by omega] at this
  exact this.symm
theorem mbt_SA {z : Nat} {s t : Nat → Nat} (hz : 0 < z) (h : SA z s t) {k : Nat} (hk : k < z) : mbt z s k = mbt z t k := by
  unfold mbt atOf
  rw [(h k hk).1, hm_congr hz (fun j hj => (h j hj).1) k]
  cases e : hm z t k with
  | none => rfl
  | some g =>
    obtain ⟨h1, h2⟩ := hm_lt hz e
    have ha : atb t g = true := by unfold atb; simpa using h2
    have hs : 256 ≤ s g := by have := (h g h1).1; rw [ha] at this; simpa [atb] using this
    show (!atb t k && !prot (s g - 256)) = (!atb t k && !prot (t g - 256))
    rw [prot_sub hs, prot_sub h2, (h g h1).2 ha]
theorem SA.up0 {z : Nat} {s t : Nat → Nat} (h : SA z s t) {k : Nat} (hk : atb t k = false) : SA z (upN s k 0) t := by
  intro j hj
  by_cases e : j = k
  · subst e
    refine ⟨?_, fun q => by rw [hk] at q; cases q⟩
    rw [hk]
    unfold atb
    rw [upN_s]
    decide
  · have e1 : atb (upN s k 0) j = atb s j := by unfold atb; rw [upN_n e]
    rw [e1, upN_n e]
    exact h j hj
def eoN (z : Nat) (sc : Nat → Nat) (k m : Nat) : Nat → Nat := itr (fun i s => if mbt z sc ((k + i) % z) = true then upN s ((k + i) % z) 0 else s) 0 m sc
def eoF (z : Nat) (sc : Nat → Nat) (k m : Nat) (f : Nat → Int32) : Nat → Int32 := itr (fun i g => if mbt z sc ((k + i) % z) = true then upd g ((k + i) % z) 0 else g) 0 m f
theorem mbt_atb {z : Nat} {sc : Nat → Nat} {k : Nat} (h : mbt z sc k = true) : atb sc k = false := by
  unfold mbt at h
  cases e : atb sc k with
  | false => rfl
  | true => rw [e] at h; cases h
section P5
variable {z n : Nat} {f : Nat → Int32} {sc : Nat → Nat} {k : Nat}
theorem eo_SCR {m : Nat} (hS : SCR z f sc) : SCR z (eoF z sc k m f) (eoN z sc k m) :=
  itr_2 (R := fun g s => SCR z g s) (s := fun i g => if mbt z sc ((k + i) % z) = true then upd g ((k + i) % z) 0 else g) (t := fun i s => if mbt z sc ((k + i) % z) = true then upN s ((k + i) % z) 0 else s)
    (fun i g s h => by
      by_cases q : mbt z sc ((k + i) % z) = true
      · rw [if_pos q, if_pos q]; exact h.upd (v := 0) (by omega)
      · rw [if_neg q, if_neg q]; exact h) m 0 f sc hS
theorem c_emptyOpenCells (hz : 0 < z) (hn : z ≤ n) (hn2 : n ≤ 5676) (hS : SCR z f sc) (hk : k < z) {m : Nat} (hm6 : m ≤ 6000) :
    f_X3_emptyOpenCells (nI z) (nI (cnt sc 0 z)) n f (nI k) (nI m) = some (nI (cnt sc 0 z), eoF z sc k m f) := by
  unfold f_X3_emptyOpenCells eoF
  rw [c_startOver hz hn hn2 hS hk]
  simp only [Option.bind_some]
  rw [c_isOpenO hz hn hn2 hS]
  have key : ∀ fu i (b : Bool) g s, i ≤ m → m - i < fu → SCR z g s → SA z s sc → (i < m → atb sc ((k + i) % z) = false → b = !prot (atOf z sc ((k + i) % z))) →
      f_X3_emptyOpenCells_L16 (nI z) n fu (nI m) b (nI ((k + i) % z)) (nI i) (nI (cnt sc 0 z)) g = some (nI (cnt sc 0 z), itr (fun i g => if mbt z sc ((k + i) % z) = true then upd g ((k + i) % z) 0 else g) i (m - i) g) := by
    intro fu
    induction fu with
    | zero => intro i b g s _ h; omega
    | succ fu ih =>
      intro i b g s hi hf hg hA hb
      rw [f_X3_emptyOpenCells_L16.eq_2]
      by_cases e : i = m
      · subst e
        rw [if_pos (nI_le (Nat.le_refl _) (by omega)), Nat.sub_self]
        rfl
      · have hm' : (k + i) % z < z := Nat.mod_lt _ hz
        have ea : (k + (i + 1)) % z = ((k + i) % z + 1) % z := by rw [Nat.mod_add_mod, Nat.add_assoc]
        rw [if_neg (nI_ge (by omega) (by omega)), c_get hn hn2 hg hm', ifA (hg _ hm').2, ifb, c_after (by omega) hm', nI_1, c_isOpen hz hn hn2 hg hm', ← ea]
        obtain ⟨m', hmm⟩ : ∃ m', m - i = m' + 1 := ⟨m - i - 1, by omega⟩
        rw [hmm]
        show (if atb s ((k + i) % z) = true then _ else _) = some (_, itr _ (i + 1) m' (if mbt z sc ((k + i) % z) = true then upd g ((k + i) % z) 0 else g))
        rw [(hA _ hm').1]
        have hnext : ∀ b' g' s', SCR z g' s' → SA z s' sc → b' = !prot (atOf z sc ((k + i) % z)) → f_X3_emptyOpenCells_L16 (nI z) n fu (nI m) b' (nI ((k + (i + 1)) % z)) (nI (i + 1)) (nI (cnt sc 0 z)) g' = some (nI (cnt sc 0 z), itr (fun i g => if mbt z sc ((k + i) % z) = true then upd g ((k + i) % z) 0 else g) (i + 1) m' g') := by
          intro b' g' s' hg' hA' hb'
          rw [ih (i + 1) b' g' s' (by omega) (by omega) hg' hA' (fun h1 h2 => by
            rw [hb', ea]
            rw [ea] at h2
            unfold atOf
            rw [hm_step hz hm' h2]), show m - (i + 1) = m' by omega]
        by_cases ha : atb sc ((k + i) % z) = true
        · rw [if_pos ha]
          have hmb : mbt z sc ((k + i) % z) = false := by unfold mbt; rw [ha]; rfl
          rw [if_neg (by rw [hmb]; decide)]
          refine hnext _ _ _ hg hA ?_
          have h256 : 256 ≤ sc ((k + i) % z) := by simpa [atb] using ha
          have hh : hm z sc ((k + i) % z) = some ((k + i) % z) := by
            unfold hm
            obtain ⟨m2, rfl⟩ : ∃ m2, z = m2 + 1 := ⟨z - 1, by omega⟩
            have e5 : ((k + i) % (m2 + 1) + (m2 + 1) - 0) % (m2 + 1) = (k + i) % (m2 + 1) := by rw [Nat.sub_zero, Nat.add_mod_right, Nat.mod_mod]
            rw [ff, if_pos (by show atb sc (((k + i) % (m2 + 1) + (m2 + 1) - 0) % (m2 + 1)) = true; rw [e5]; exact ha)]
            exact congrArg some e5
          unfold atOf
          rw [hh]
          show (!prot (s ((k + i) % z))) = !prot (sc ((k + i) % z) - 256)
          rw [prot_sub h256, (hA _ hm').2 ha]
        · rw [if_neg ha]
          have ha' : atb sc ((k + i) % z) = false := by simpa using ha
          have hb2 := hb (by omega) ha'
          have hmb : mbt z sc ((k + i) % z) = b := by unfold mbt; rw [ha', hb2]; rfl
          have hcs : cnt s 0 z = cnt sc 0 z := cnt_congr (fun j _ hj => (hA j (by omega)).1)
          by_cases hbt : b = true
          · rw [if_pos hbt, if_pos (by rw [hmb]; exact hbt)]
            have e6 := c_put (k := (k + i) % z) (v := 0) hz hn hn2 hg hm' (by omega)
            rw [hcs, nI_0] at e6
            rw [e6]
            have hc2 : cnt (upN s ((k + i) % z) 0) 0 z = cnt sc 0 z := cnt_congr (fun j _ hj => ((hA.up0 ha') j (by omega)).1)
            rw [hc2]
            have hg2 := hg.upd (k := (k + i) % z) (v := 0) (by omega)
            rw [nI_0] at hg2
            exact hnext b _ _ hg2 (hA.up0 ha') hb2
          · rw [if_neg hbt, if_neg (by rw [hmb]; exact hbt)]
            exact hnext b _ _ hg hA hb2
  have h := key FU 0 _ f sc (Nat.zero_le _) (FU_big (by omega)) hS SA.refl (fun _ _ => by rw [Nat.add_zero, Nat.mod_eq_of_lt hk])
  rw [Nat.add_zero, Nat.mod_eq_of_lt hk, nI_0, Nat.sub_zero] at h
  exact h
theorem r_eraseLoop (hz : 0 < z) (hz2 : z ≤ 5676) (hS : SCR z f sc) (hk : k < z) {m : Nat} (hm6 : m ≤ 6000) (sl : Int32) (st : Nat → Int32) (to a : Int32) (b : Bool) :
    f_X6_erase_L46 (nI z) sl st FU to (nI m) 0 a (nI k) b f = some (a, to, b, eoF z sc k m f) := by
  unfold eoF
  have key : ∀ fu i g s, i ≤ m → m - i < fu → SCR z g s → SA z s sc →
      f_X6_erase_L46 (nI z) sl st fu to (nI m) (nI i) a (nI k) b g = some (a, to, b, itr (fun i g => if mbt z sc ((k + i) % z) = true then upd g ((k + i) % z) 0 else g) i (m - i) g) := by
    intro fu
    induction fu with
    | zero => intro i g s _ h; omega
    | succ fu ih =>
      intro i g s hi hf hg hA
      rw [f_X6_erase_L46.eq_2]
      by_cases e : i = m
      · subst e
        rw [if_pos (nI_le (Nat.le_refl _) (by omega)), Nat.sub_self]
        rfl
      · have hm' : (k + i) % z < z := Nat.mod_lt _ hz
        rw [if_neg (nI_ge (by omega) (by omega)), nI_add, rndA hz hz2 (by omega)]
        simp only [Option.bind_some]
        rw [r_mayBeTyped hz hz2 hg hm', mbt_SA hz hA hm']
        simp only [Option.bind_some, ifb, nI_1]
        obtain ⟨m', hmm⟩ : ∃ m', m - i = m' + 1 := ⟨m - i - 1, by omega⟩
        rw [hmm, if_neg (cl_in (by omega)), nI_clamp (by omega)]
        show _ = some (_, _, _, itr _ (i + 1) m' (if mbt z sc ((k + i) % z) = true then upd g ((k + i) % z) 0 else g))
        by_cases q : mbt z sc ((k + i) % z) = true
        · rw [if_pos q, if_pos q]
          have hg2 := hg.upd (k := (k + i) % z) (v := 0) (by omega)
          rw [nI_0] at hg2
          rw [ih (i + 1) _ _ (by omega) (by omega) hg2 (hA.up0 (mbt_atb q)), show m - (i + 1) = m' by omega]
        · rw [if_neg q, if_neg q, ih (i + 1) _ _ (by omega) (by omega) hg hA, show m - (i + 1) = m' by omega]
  have h := key FU 0 f sc (Nat.zero_le _) (FU_big (by omega)) hS SA.refl
  rw [nI_0, Nat.sub_zero] at h
  exact h
end P5
