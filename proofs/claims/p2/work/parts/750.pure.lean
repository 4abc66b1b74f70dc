/-! Making room for a sign, both sides. -/
def dst (z k j : Nat) : Nat := (j + z - k) % z
theorem dst_add {z k i : Nat} (hk : k < z) (hi : i < z) : dst z k ((k + i) % z) = i := by
  unfold dst
  by_cases h : k + i < z
  · rw [Nat.mod_eq_of_lt h, show k + i + z - k = i + z by omega, Nat.add_mod_right, Nat.mod_eq_of_lt hi]
  · have e : (k + i) % z = k + i - z := by rw [Nat.mod_eq_sub_mod (by omega), Nat.mod_eq_of_lt (by omega)]
    rw [e, show k + i - z + z - k = i by omega, Nat.mod_eq_of_lt hi]
theorem dst_back {z k j : Nat} (hk : k < z) (hj : j < z) : (k + dst z k j) % z = j := by
  unfold dst
  rw [Nat.add_mod, Nat.mod_mod, ← Nat.add_mod, show k + (j + z - k) = j + z by omega, Nat.add_mod_right, Nat.mod_eq_of_lt hj]
def car (z : Nat) (sc : Nat → Nat) (k i : Nat) : Nat := if i = 0 then 0 else sc ((k + (i - 1)) % z)
def mkC (z : Nat) (sc : Nat → Nat) (k i j : Nat) : Nat := if dst z k j < i then car z sc k (dst z k j) else sc j
def mkR (z : Nat) (sc : Nat → Nat) (k e v j : Nat) : Nat := if v < dst z k j ∧ dst z k j ≤ e then car z sc k (dst z k j) else sc j
def mrE (z : Nat) (sc : Nat → Nat) (k : Nat) : Option Nat := ff (fun i => decide (sc ((k + i) % z) = 0)) 0 (toE z sc k)
section P10
variable {z n : Nat} {f : Nat → Int32} {sc : Nat → Nat} {k : Nat}
theorem mkC_0 : mkC z sc k 0 = sc := by
  funext j
  unfold mkC
  rw [if_neg (by omega)]
theorem mkC_up (hk : k < z) {i j : Nat} (hi : i < z) (hj : j < z) : upN (mkC z sc k i) ((k + i) % z) (car z sc k i) j = mkC z sc k (i + 1) j := by
  by_cases e : j = (k + i) % z
  · subst e
    rw [upN_s]
    unfold mkC
    rw [dst_add hk hi, if_pos (by omega)]
  · rw [upN_n e]
    have hne : dst z k j ≠ i := fun q => e (by rw [← q, dst_back hk hj])
    unfold mkC
    by_cases h : dst z k j < i
    · rw [if_pos h, if_pos (show dst z k j < i + 1 by omega)]
    · rw [if_neg h, if_neg (show ¬ dst z k j < i + 1 by omega)]
theorem mkR_e {e j : Nat} : mkR z sc k e e j = sc j := by
  unfold mkR
  rw [if_neg (by omega)]
theorem mkR_up (hk : k < z) {e v j : Nat} (hv : v + 1 ≤ e) (he : e < z) (hj : j < z) : upN (mkR z sc k e (v + 1)) ((k + (v + 1)) % z) (sc ((k + v) % z)) j = mkR z sc k e v j := by
  by_cases h : j = (k + (v + 1)) % z
  · subst h
    rw [upN_s]
    unfold mkR
    rw [dst_add hk (by omega), if_pos (by omega)]
    unfold car
    rw [if_neg (by omega), Nat.add_sub_cancel]
  · rw [upN_n h]
    have hne : dst z k j ≠ v + 1 := fun q => h (by rw [← q, dst_back hk hj])
    unfold mkR
    by_cases h2 : v + 1 < dst z k j ∧ dst z k j ≤ e
    · rw [if_pos h2, if_pos (show v < dst z k j ∧ dst z k j ≤ e by omega)]
    · rw [if_neg h2, if_neg (show ¬ (v < dst z k j ∧ dst z k j ≤ e) by omega)]
theorem mk_same (hk : k < z) {e j : Nat} (hj : j < z) : mkC z sc k (e + 1) j = upN (mkR z sc k e 0) k 0 j := by
  by_cases h : j = k
  · subst h
    rw [upN_s]
    unfold mkC
    have : dst z j j = 0 := by
      have := dst_add (z := z) (k := j) (i := 0) hk (by omega)
      rw [Nat.add_zero, Nat.mod_eq_of_lt hk] at this
      exact this
    rw [this, if_pos (by omega)]
    rfl
  · rw [upN_n h]
    have hne : dst z k j ≠ 0 := fun q => h (by
      have := dst_back hk hj
      rw [q, Nat.add_zero, Nat.mod_eq_of_lt hk] at this
      exact this.symm)
    unfold mkC mkR
    by_cases h2 : dst z k j < e + 1
    · rw [if_pos h2, if_pos (by omega)]
    · rw [if_neg h2, if_neg (by omega)]
theorem car_lt (hz : 0 < z) (hS : ∀ j, j < z → sc j < 512) (i : Nat) : car z sc k i < 512 := by
  unfold car
  by_cases h : i = 0
  · rw [if_pos h]; omega
  · rw [if_neg h]; exact hS _ (Nat.mod_lt _ hz)
theorem mkC_atb (hz : 0 < z) (hk : k < z) {i j : Nat} (hi : i ≤ toE z sc k) (hj : j < z) : atb (mkC z sc k i) j = atb sc j := by
  show decide (256 ≤ mkC z sc k i j) = _
  unfold mkC
  by_cases h : dst z k j < i
  · rw [if_pos h]
    have e1 := toE_atb (sc := sc) hz hk (dst z k j) (by omega)
    rw [dst_back hk hj] at e1
    rw [e1]
    unfold car
    by_cases h0 : dst z k j = 0
    · rw [if_pos h0]; decide
    · rw [if_neg h0]
      exact toE_atb (sc := sc) hz hk (dst z k j - 1) (by omega)
  · rw [if_neg h]
    rfl
theorem mrE_lt {e : Nat} (h : mrE z sc k = some e) : e < toE z sc k := by have := ff_some h; omega
theorem nI_eq0 {a : Nat} (h : a < 512) : nI a = 0 ↔ a = 0 := by
  constructor
  · intro q
    rcases Nat.eq_zero_or_pos a with h0 | h0
    · exact h0
    · exact absurd q (nI_ne0 h0 (by omega))
  · intro q
    rw [q, nI_0]
theorem c_firstEmpty (hz : 0 < z) (hn : z ≤ n) (hn2 : n ≤ 5676) (hS : SCR z f sc) (hk : k < z) :
    f_X3_cellsToFirstEmpty (nI z) (nI (cnt sc 0 z)) n f (nI k) = some (oI (mrE z sc k)) := by
  have h6 := toE_le (z := z) (sc := sc) (k := k)
  unfold f_X3_cellsToFirstEmpty mrE
  rw [c_toEnd hz hn hn2 hS hk]
  simp only [Option.bind_some]
  generalize toE z sc k = m at h6
  have key : ∀ fu i, i ≤ m → m - i < fu → f_X3_cellsToFirstEmpty_L11 (nI z) (nI (cnt sc 0 z)) n f fu (nI m) (nI ((k + i) % z)) (nI i) = some (oI (ff (fun i => decide (sc ((k + i) % z) = 0)) i (m - i))) := by
    intro fu
    induction fu with
    | zero => intro i _ h; omega
    | succ fu ih =>
      intro i hi hf
      rw [f_X3_cellsToFirstEmpty_L11.eq_2]
      by_cases e : i = m
      · subst e
        rw [if_pos (nI_le (Nat.le_refl _) (by omega)), Nat.sub_self]
        rfl
      · have hm' : (k + i) % z < z := Nat.mod_lt _ hz
        obtain ⟨m', hmm⟩ : ∃ m', m - i = m' + 1 := ⟨m - i - 1, by omega⟩
        rw [if_neg (nI_ge (by omega) (by omega)), c_get hn hn2 hS hm', nI_1, c_after (by omega) hm', Nat.mod_add_mod, Nat.add_assoc, ih (i + 1) (by omega) (by omega), hmm, show m - (i + 1) = m' by omega, ff]
        by_cases q : sc ((k + i) % z) = 0
        · rw [if_pos ((nI_eq0 (hS _ hm').2).mpr q), if_pos (by simpa using q)]
          rfl
        · rw [if_neg (fun h => q ((nI_eq0 (hS _ hm').2).mp h)), if_neg (by simpa using q)]
  have h := key FU 0 (Nat.zero_le _) (FU_big (by omega))
  rw [Nat.add_zero, Nat.mod_eq_of_lt hk, nI_0, Nat.sub_zero] at h
  exact h
theorem c_makeRoom_none (hz : 0 < z) (hn : z ≤ n) (hn2 : n ≤ 5676) (hS : SCR z f sc) (hk : k < z) (he : mrE z sc k = none) :
    f_X3_makeRoom (nI z) (nI (cnt sc 0 z)) n f (nI k) = some (false, nI (cnt sc 0 z), f) := by
  unfold f_X3_makeRoom
  rw [c_firstEmpty hz hn hn2 hS hk, he]
  rfl
theorem c_makeRoom_some (hz : 0 < z) (hn : z ≤ n) (hn2 : n ≤ 5676) (hS : SCR z f sc) (hk : k < z) {e : Nat} (he : mrE z sc k = some e) :
    ∃ g, f_X3_makeRoom (nI z) (nI (cnt sc 0 z)) n f (nI k) = some (true, nI (cnt sc 0 z), g) ∧ SCR z g (mkC z sc k (e + 1)) := by
  have h6 := toE_le (z := z) (sc := sc) (k := k)
  have h7 := mrE_lt he
  unfold f_X3_makeRoom
  rw [c_firstEmpty hz hn hn2 hS hk, he]
  simp only [Option.bind_some]
  rw [if_neg (fun q => by have := (oI_m1 (o := some e) (fun k q => by cases q; omega)).mp q; cases this)]
  have hcn : ∀ i, i ≤ e + 1 → cnt (mkC z sc k i) 0 z = cnt sc 0 z := fun i hi => cnt_congr (fun j _ hj => mkC_atb hz hk (by omega) (by omega))
  have key : ∀ fu i g, i ≤ e + 1 → e + 1 - i < fu → SCR z g (mkC z sc k i) →
      ∃ g', f_X3_makeRoom_L21 (nI z) n fu (nI e) (nI ((k + i) % z)) (nI (car z sc k i)) (nI i) (nI (cnt sc 0 z)) g = some (true, nI (cnt sc 0 z), g') ∧ SCR z g' (mkC z sc k (e + 1)) := by
    intro fu
    induction fu with
    | zero => intro i g _ h; omega
    | succ fu ih =>
      intro i g hi hf hg
      rw [f_X3_makeRoom_L21.eq_2]
      by_cases q : i = e + 1
      · rw [q] at hg
        rw [q, if_pos (nI_lt (by omega) (by omega))]
        exact ⟨g, rfl, hg⟩
      · have hm' : (k + i) % z < z := Nat.mod_lt _ hz
        have hv := car_lt (z := z) (k := k) hz (fun j hj => (hS j hj).2) i
        rw [if_neg (Int32.not_lt.mpr (nI_le (by omega) (by omega))), c_get hn hn2 hg hm', nI_1, c_after (by omega) hm', Nat.mod_add_mod, Nat.add_assoc]
        have ecar : mkC z sc k i ((k + i) % z) = car z sc k (i + 1) := by
          unfold mkC car
          rw [dst_add hk (by omega), if_neg (by omega), if_neg (by omega), Nat.add_sub_cancel]
        rw [ecar]
        have e6 := c_put (k := (k + i) % z) (v := car z sc k i) hz hn hn2 hg hm' hv
        have hcc : cnt (upN (mkC z sc k i) ((k + i) % z) (car z sc k i)) 0 z = cnt sc 0 z := by
          rw [← hcn (i + 1) (by omega)]
          refine cnt_congr (fun j _ hj => ?_)
          unfold atb
          rw [mkC_up hk (by omega) (by omega)]
        rw [hcn _ (by omega), hcc] at e6
        rw [e6]
        have hg2 := (hg.upd (k := (k + i) % z) hv).congr (fun j hj => mkC_up hk (i := i) (by omega) hj)
        exact ih (i + 1) _ (by omega) (by omega) hg2
  have h := key FU 0 f (Nat.zero_le _) (FU_big (by omega)) (by rw [mkC_0]; exact hS)
  have e0 : car z sc k 0 = 0 := rfl
  rw [Nat.add_zero, Nat.mod_eq_of_lt hk, nI_0, e0, nI_0] at h
  exact h
theorem r_makeRoom_none (hz : 0 < z) (hz2 : z ≤ 5676) (hS : SCR z f sc) (hk : k < z) (he : mrE z sc k = none) :
    f_X6_makeRoom (nI z) (nI k) f = some (false, f) := by
  have h6 := toE_le (z := z) (sc := sc) (k := k)
  unfold f_X6_makeRoom
  unfold mrE at he
  rw [r_toEnd hz hz2 hS hk]
  simp only [Option.bind_some]
  generalize toE z sc k = m at h6 he
  have key : ∀ fu i, i ≤ m → m - i < fu → f_X6_makeRoom_L11 (nI z) (nI k) fu (nI m) (nI i) f = some (false, f) := by
    intro fu
    induction fu with
    | zero => intro i _ h; omega
    | succ fu ih =>
      intro i hi hf
      rw [f_X6_makeRoom_L11.eq_2]
      by_cases e : i = m
      · subst e
        rw [if_pos (nI_le (Nat.le_refl _) (by omega)), if_pos rfl]
      · have hm' : (k + i) % z < z := Nat.mod_lt _ hz
        have hq := ff_none he i (Nat.zero_le _) (by omega)
        rw [if_neg (nI_ge (by omega) (by omega)), nI_add, rndA hz hz2 (by omega)]
        simp only [Option.bind_some]
        rw [if_neg (cl_in (by omega)), nI_clamp (by omega), (hS _ hm').1, if_neg (fun h => by
          have := (nI_eq0 (hS _ hm').2).mp h
          simp [this] at hq), nI_1, ih (i + 1) (by omega) (by omega)]
  have h := key FU 0 (Nat.zero_le _) (FU_big (by omega))
  rw [nI_0] at h
  exact h
theorem r_room49 (hz : 0 < z) (hz2 : z ≤ 5676) (hk : k < z) (hS : SCR z f sc) {e : Nat} (he : e < z) :
    ∃ g, f_X6_makeRoom_L49 (nI z) (nI k) FU (nI e) f = some (true, g) ∧ SCR z g (mkR z sc k e 0) := by
  have key : ∀ fu v g, v ≤ e → v < fu → SCR z g (mkR z sc k e v) → ∃ g', f_X6_makeRoom_L49 (nI z) (nI k) fu (nI v) g = some (true, g') ∧ SCR z g' (mkR z sc k e 0) := by
    intro fu
    induction fu with
    | zero => intro v g _ h; omega
    | succ fu ih =>
      intro v g hv hf hg
      rw [f_X6_makeRoom_L49.eq_2]
      cases v with
      | zero =>
        rw [if_pos (by rw [nI_0]; decide)]
        exact ⟨g, rfl, hg⟩
      | succ v =>
        have h1 : (k + (v + 1)) % z < z := Nat.mod_lt _ hz
        have h2 : (k + v) % z < z := Nat.mod_lt _ hz
        rw [if_neg (show ¬ nI (v + 1) ≤ 0 by rw [← nI_0]; exact nI_ge (by omega) (by omega)), nI_add, rndA hz hz2 (by omega), nI_s1 (by omega), show k + (v + 1) - 1 = k + v by omega]
        simp only [Option.bind_some]
        rw [rndA hz hz2 (by omega)]
        simp only [Option.bind_some]
        rw [if_neg (cl_in (by omega)), if_neg (cl_in (by omega)), nI_clamp (by omega), nI_clamp (by omega), (hg _ h2).1, nI_prd]
        have e1 : mkR z sc k e (v + 1) ((k + v) % z) = sc ((k + v) % z) := by
          unfold mkR
          rw [dst_add hk (by omega), if_neg (by omega)]
        have hb := (hg _ h2).2
        rw [e1] at hb ⊢
        have hg2 := (hg.upd (k := (k + (v + 1)) % z) hb).congr (fun j hj => mkR_up hk (by omega) he hj)
        exact ih v _ (by omega) (by omega) hg2
  exact key FU e f (Nat.le_refl _) (FU_big (by omega)) (hS.congr (fun j _ => mkR_e.symm))
theorem r_makeRoom_some (hz : 0 < z) (hz2 : z ≤ 5676) (hS : SCR z f sc) (hk : k < z) {e : Nat} (he : mrE z sc k = some e) :
    ∃ g, f_X6_makeRoom (nI z) (nI k) f = some (true, g) ∧ SCR z g (mkR z sc k e 0) := by
  have h6 := toE_le (z := z) (sc := sc) (k := k)
  have h7 := mrE_lt he
  obtain ⟨g, hg1, hg2⟩ := r_room49 hz hz2 hk hS (e := e) (by omega)
  refine ⟨g, ?_, hg2⟩
  unfold f_X6_makeRoom
  unfold mrE at he
  rw [r_toEnd hz hz2 hS hk]
  simp only [Option.bind_some]
  generalize toE z sc k = m at h6 h7 he
  obtain ⟨_, _, p3, p4⟩ := ff_some he
  have key : ∀ fu i, i ≤ e → e - i < fu → f_X6_makeRoom_L11 (nI z) (nI k) fu (nI m) (nI i) f = some (true, g) := by
    intro fu
    induction fu with
    | zero => intro i _ h; omega
    | succ fu ih =>
      intro i hi hf
      have hm' : (k + i) % z < z := Nat.mod_lt _ hz
      rw [f_X6_makeRoom_L11.eq_2, if_neg (nI_ge (by omega) (by omega)), nI_add, rndA hz hz2 (by omega)]
      simp only [Option.bind_some]
      rw [if_neg (cl_in (by omega)), nI_clamp (by omega), (hS _ hm').1]
      by_cases q : i = e
      · subst q
        rw [if_pos ((nI_eq0 (hS _ hm').2).mpr (by simpa using p3)), if_neg (fun h => (show ¬ nI m ≤ nI i from nI_ge (by omega) (by omega)) (by rw [h]; exact Int32.le_refl _)), hg1]
      · have hq := p4 i (Nat.zero_le _) (by omega)
        rw [if_neg (fun h => by
          have := (nI_eq0 (hS _ hm').2).mp h
          simp [this] at hq), nI_1, ih (i + 1) (by omega) (by omega)]
  have h := key FU 0 (Nat.zero_le _) (FU_big (by omega))
  rw [nI_0] at h
  exact h
end P10
