/-! The reference's functions over a screen of z cells, in naturals. -/
def SCR (z : Nat) (f : Nat → Int32) (sc : Nat → Nat) : Prop := ∀ j, j < z → f j = nI (sc j) ∧ sc j < 512
def atb (sc : Nat → Nat) (j : Nat) : Bool := decide (256 ≤ sc j)
/-- the place of the attribute of a cell's field, going back from k, round -/
def hm (z : Nat) (sc : Nat → Nat) (k : Nat) : Option Nat := (ff (fun i => atb sc ((k + z - i) % z)) 0 z).map (fun i => (k + z - i) % z)
def oI (o : Option Nat) : Int32 := match o with
  | some k => nI k
  | none => -1
theorem ifb {α : Type} (b : Bool) (X Y : α) : (if b2i b = 0 then X else Y) = if b = true then Y else X := by
  cases b
  · rfl
  · rw [if_neg (by decide), if_pos rfl]
theorem emod_nat {k i z : Nat} (hz : 0 < z) (hi : i ≤ k + z) : (((k : Int) - i) % z).toNat = (k + z - i) % z := by
  have h1 : ((k : Int) - i) % z = ((k + z - i : Nat) : Int) % z := by
    rw [show ((k + z - i : Nat) : Int) = ((k : Int) - i) + z by omega, Int.add_emod_right]
  rw [h1]
  exact Int.toNat_natCast _
theorem sub_iI (k i : Nat) : nI k - nI i = iI ((k : Int) - i) := by
  rw [nI_iI, nI_iI, ← Int32.ofInt_sub]
theorem rndS {z k i : Nat} (hz : 0 < z) (hz2 : z ≤ 5676) (hk : k ≤ 20000) (hi : i ≤ k + z) : f_X6_round (nI z) (nI k - nI i) = some (nI ((k + z - i) % z)) := by
  rw [sub_iI, rnd hz hz2 _ (by omega) (by omega), emod_nat hz hi]
theorem rndA {z k : Nat} (hz : 0 < z) (hz2 : z ≤ 5676) (hk : k ≤ 20000) : f_X6_round (nI z) (nI k) = some (nI (k % z)) := by
  have h := rnd hz hz2 (k : Int) (by omega) (by omega)
  rw [← nI_iI] at h
  rw [h]
  congr 2
theorem cl_in {k : Nat} (hk : k < 5676) : ¬ (nI k < 0 ∨ 5676 ≤ (nI k).toNatClampNeg) := nI_in hk (by omega)
theorem r_isAtt {z : Nat} {f : Nat → Int32} {sc : Nat → Nat} (hz2 : z ≤ 5676) (hS : SCR z f sc) {k : Nat} (hk : k < z) : f_X6_isAttribute f (nI k) = some (atb sc k) := by
  unfold f_X6_isAttribute
  rw [if_neg (cl_in (by omega)), nI_clamp (by omega), (hS k hk).1]
  have hv := (hS k hk).2
  unfold atb
  by_cases h : 256 ≤ sc k
  · rw [if_neg (show ¬ nI (sc k) < (256 : Int32) from nI_nlt (b := 256) h (by omega))]
    simp [h]
  · rw [if_pos (show nI (sc k) < (256 : Int32) from nI_lt (b := 256) (by omega) (by omega))]
    simp [h]
theorem r_home {z : Nat} {f : Nat → Int32} {sc : Nat → Nat} (hz : 0 < z) (hz2 : z ≤ 5676) (hS : SCR z f sc) {k : Nat} (hk : k < z) : f_X6_home (nI z) f (nI k) = some (oI (hm z sc k)) := by
  unfold f_X6_home
  have h := scan (fun fu i => f_X6_home_L2 (nI z) f fu (nI k) (nI i)) (fun i => atb sc ((k + z - i) % z)) z (fun i => nI ((k + z - i) % z)) (-1)
    (fun fu => by
      show f_X6_home_L2 (nI z) f (fu + 1) (nI k) (nI z) = _
      rw [f_X6_home_L2.eq_2, if_pos (nI_le (Nat.le_refl _) (by omega))])
    (fun fu i hi => by
      show f_X6_home_L2 (nI z) f (fu + 1) (nI k) (nI i) = _
      rw [f_X6_home_L2.eq_2, if_neg (nI_ge hi (by omega)), rndS hz hz2 (by omega) (by omega)]
      have hm' : (k + z - i) % z < z := Nat.mod_lt _ hz
      simp only [Option.bind_some]
      rw [r_isAtt hz2 hS hm']
      simp only [Option.bind_some, ifb, nI_1])
    FU 0 (Nat.zero_le _) (FU_big (by omega))
  have h : f_X6_home_L2 (nI z) f FU (nI k) 0 = _ := h
  rw [h]
  congr 1
  unfold hm oI
  rw [Nat.sub_zero]
  cases ff (fun i => atb sc ((k + z - i) % z)) 0 z <;> rfl
theorem hm_lt {z : Nat} {sc : Nat → Nat} {k h : Nat} (hz : 0 < z) (e : hm z sc k = some h) : h < z ∧ 256 ≤ sc h := by
  unfold hm at e
  cases e2 : ff (fun i => atb sc ((k + z - i) % z)) 0 z with
  | none => rw [e2] at e; cases e
  | some i =>
    rw [e2] at e
    cases e
    have := ff_some e2
    exact ⟨Nat.mod_lt _ hz, by simpa [atb] using this.2.2.1⟩
theorem oI_m1 {o : Option Nat} (h : ∀ k, o = some k → k < 2147483648) : oI o = -1 ↔ o = none := by
  cases o with
  | none => exact ⟨fun _ => rfl, fun _ => rfl⟩
  | some k =>
    have hk := h k rfl
    refine ⟨fun e => ?_, fun e => by cases e⟩
    exfalso
    have e2 : (nI k).toInt = (-1 : Int32).toInt := congrArg Int32.toInt e
    rw [nI_toInt (by omega)] at e2
    have e3 : (-1 : Int32).toInt = -1 := by decide
    omega
/-- what the attribute of a cell's field is (0 without fields) -/
def atOf (z : Nat) (sc : Nat → Nat) (k : Nat) : Nat := match hm z sc k with
  | some h => sc h - 256
  | none => 0
theorem r_attributeOf {z : Nat} {f : Nat → Int32} {sc : Nat → Nat} (hz : 0 < z) (hz2 : z ≤ 5676) (hS : SCR z f sc) {k : Nat} (hk : k < z) : f_X6_attributeOf (nI z) f (nI k) = some (nI (atOf z sc k)) := by
  unfold f_X6_attributeOf
  rw [r_home hz hz2 hS hk]
  simp only [Option.bind_some]
  unfold atOf
  cases e : hm z sc k with
  | none => rw [if_pos (show oI none = -1 from rfl)]; rfl
  | some h =>
    obtain ⟨h1, h2⟩ := hm_lt hz e
    rw [if_neg (fun q => by have := (oI_m1 (o := some h) (fun k q => by cases q; omega)).mp q; cases this)]
    show (if nI h < 0 ∨ 5676 ≤ (nI h).toNatClampNeg then none else some (f (nI h).toNatClampNeg - 256)) = _
    rw [if_neg (cl_in (by omega)), nI_clamp (by omega), (hS h h1).1]
    exact congrArg some (pk_sub (b := 256) h2)
/-- bit 32 of an attribute: protected -/
def prot (a : Nat) : Bool := decide (a / 32 % 2 = 1)
theorem and32 {a : Nat} (h : a < 512) : (nI a &&& 32 = 0) ↔ prot a = false := by
  have key : ∀ a, a < 512 → (decide (nI a &&& 32 = 0) = !(decide (a / 32 % 2 = 1))) := by decide +kernel
  have := key a h
  unfold prot
  by_cases h1 : nI a &&& 32 = 0 <;> by_cases h2 : a / 32 % 2 = 1 <;> simp_all
theorem r_isProtected {z : Nat} {f : Nat → Int32} {sc : Nat → Nat} (hz : 0 < z) (hz2 : z ≤ 5676) (hS : SCR z f sc) {k : Nat} (hk : k < z) : f_X6_isProtected (nI z) f (nI k) = some (prot (atOf z sc k)) := by
  unfold f_X6_isProtected
  rw [r_attributeOf hz hz2 hS hk]
  simp only [Option.bind_some]
  have hlt : atOf z sc k < 512 := by
    unfold atOf
    cases e : hm z sc k with
    | none => show 0 < 512; omega
    | some h => have := (hS h (hm_lt hz e).1).2; show sc h - 256 < 512; omega
  by_cases h : prot (atOf z sc k) = true
  · rw [if_neg (fun q => by rw [(and32 hlt).mp q] at h; cases h), h]
  · have h' : prot (atOf z sc k) = false := by simpa using h
    rw [if_pos ((and32 hlt).mpr h'), h']
/-- may be typed in: no attribute, its field not protected -/
def mbt (z : Nat) (sc : Nat → Nat) (k : Nat) : Bool := !atb sc k && !prot (atOf z sc k)
theorem r_mayBeTyped {z : Nat} {f : Nat → Int32} {sc : Nat → Nat} (hz : 0 < z) (hz2 : z ≤ 5676) (hS : SCR z f sc) {k : Nat} (hk : k < z) : f_X6_mayBeTyped (nI z) f (nI k) = some (mbt z sc k) := by
  unfold f_X6_mayBeTyped mbt
  rw [r_isAtt hz2 hS hk, r_isProtected hz hz2 hS hk]
  simp only [Option.bind_some, ifb]
  cases atb sc k <;> cases prot (atOf z sc k) <;> rfl
/-- how many attributes lie among the m cells from i on -/
def cnt (sc : Nat → Nat) : Nat → Nat → Nat
  | _, 0 => 0
  | i, m + 1 => (if atb sc i = true then 1 else 0) + cnt sc (i + 1) m
theorem cnt_le (sc : Nat → Nat) : ∀ m i, cnt sc i m ≤ m := by
  intro m
  induction m with
  | zero => intro i; exact Nat.le_refl _
  | succ m ih => intro i; unfold cnt; have := ih (i + 1); split <;> omega
theorem r_fields {z : Nat} {f : Nat → Int32} {sc : Nat → Nat} (hz2 : z ≤ 5676) (hS : SCR z f sc) : f_X6_fields (nI z) f = some (nI (cnt sc 0 z)) := by
  unfold f_X6_fields
  have key : ∀ fu i n, i ≤ z → z - i < fu → n ≤ 10000 + i → f_X6_fields_L4 (nI z) f fu (nI n) (nI i) = some (nI (n + cnt sc i (z - i))) := by
    intro fu
    induction fu with
    | zero => intro i n _ h; omega
    | succ fu ih =>
      intro i n hi hf hn
      rw [f_X6_fields_L4.eq_2]
      by_cases e : i = z
      · subst e
        rw [if_pos (nI_le (Nat.le_refl _) (by omega)), Nat.sub_self]
        rfl
      · rw [if_neg (nI_ge (by omega) (by omega)), r_isAtt hz2 hS (by omega)]
        simp only [Option.bind_some, ifb, nI_1]
        obtain ⟨m, hm⟩ : ∃ m, z - i = m + 1 := ⟨z - i - 1, by omega⟩
        rw [hm]
        unfold cnt
        by_cases h : atb sc i = true
        · rw [if_pos h, if_pos h, ih (i + 1) (n + 1) (by omega) (by omega) (by omega), show z - (i + 1) = m by omega, Nat.add_assoc]
        · rw [if_neg h, if_neg h, ih (i + 1) n (by omega) (by omega) (by omega), show z - (i + 1) = m by omega, Nat.zero_add]
  have h := key FU 0 0 (Nat.zero_le _) (FU_big (by omega)) (by omega)
  rw [Nat.zero_add, Nat.sub_zero, nI_0] at h
  exact h
/-- the t-th attribute among the m cells from i on -/
def nthA (sc : Nat → Nat) : Nat → Nat → Nat → Option Nat
  | _, 0, _ => none
  | i, m + 1, t => if atb sc i = true then (if t = 0 then some i else nthA sc (i + 1) m (t - 1)) else nthA sc (i + 1) m t
theorem nthA_lt {sc : Nat → Nat} : ∀ {m i t k : Nat}, nthA sc i m t = some k → i ≤ k ∧ k < i + m ∧ atb sc k = true := by
  intro m
  induction m with
  | zero => intro i t k h; cases h
  | succ m ih =>
    intro i t k h
    unfold nthA at h
    by_cases ha : atb sc i = true
    · rw [if_pos ha] at h
      by_cases h0 : t = 0
      · rw [if_pos h0] at h; cases h; exact ⟨Nat.le_refl _, by omega, ha⟩
      · rw [if_neg h0] at h; have := ih h; exact ⟨by omega, by omega, this.2.2⟩
    · rw [if_neg ha] at h; have := ih h; exact ⟨by omega, by omega, this.2.2⟩
theorem r_attributeAt {z : Nat} {f : Nat → Int32} {sc : Nat → Nat} (hz2 : z ≤ 5676) (hS : SCR z f sc) {t : Nat} (ht : t < 2147483648) : f_X6_attributeAt (nI z) f (nI t) = some (oI (nthA sc 0 z t)) := by
  unfold f_X6_attributeAt
  have key : ∀ fu i n, i ≤ z → z - i < fu → n ≤ i → n ≤ t → f_X6_attributeAt_L4 (nI z) f fu (nI t) (nI n) (nI i) = some (oI (nthA sc i (z - i) (t - n))) := by
    intro fu
    induction fu with
    | zero => intro i n _ h; omega
    | succ fu ih =>
      intro i n hi hf hn hnt
      rw [f_X6_attributeAt_L4.eq_2]
      by_cases e : i = z
      · subst e
        rw [if_pos (nI_le (Nat.le_refl _) (by omega)), Nat.sub_self]
        rfl
      · rw [if_neg (nI_ge (by omega) (by omega)), r_isAtt hz2 hS (by omega)]
        simp only [Option.bind_some, ifb, nI_1]
        obtain ⟨m, hm⟩ : ∃ m, z - i = m + 1 := ⟨z - i - 1, by omega⟩
        rw [hm]
        unfold nthA
        by_cases h : atb sc i = true
        · rw [if_pos h, if_pos h]
          by_cases h2 : n = t
          · rw [if_pos ((nI_eq (by omega) (by omega)).mpr h2), if_pos (by omega)]
            rfl
          · rw [if_neg (fun q => h2 ((nI_eq (by omega) (by omega)).mp q)), if_neg (by omega), ih (i + 1) (n + 1) (by omega) (by omega) (by omega) (by omega), show z - (i + 1) = m by omega, Nat.sub_sub]
        · rw [if_neg h, if_neg h, ih (i + 1) n (by omega) (by omega) (by omega) hnt, show z - (i + 1) = m by omega]
  have h := key FU 0 0 (Nat.zero_le _) (FU_big (by omega)) (by omega) (by omega)
  rw [Nat.sub_zero, Nat.sub_zero, nI_0] at h
  exact h
theorem r_attributeAt_neg {z : Nat} {f : Nat → Int32} {sc : Nat → Nat} (hz2 : z ≤ 5676) (hS : SCR z f sc) {a : Int32} (ha : a < 0) : f_X6_attributeAt (nI z) f a = some (-1) := by
  unfold f_X6_attributeAt
  have key : ∀ fu i n, i ≤ z → z - i < fu → n ≤ i → f_X6_attributeAt_L4 (nI z) f fu a (nI n) (nI i) = some (-1) := by
    intro fu
    induction fu with
    | zero => intro i n _ h; omega
    | succ fu ih =>
      intro i n hi hf hn
      rw [f_X6_attributeAt_L4.eq_2]
      by_cases e : i = z
      · subst e
        rw [if_pos (nI_le (Nat.le_refl _) (by omega))]
      · rw [if_neg (nI_ge (by omega) (by omega)), r_isAtt hz2 hS (by omega)]
        simp only [Option.bind_some, ifb, nI_1]
        rw [if_neg (show ¬ nI n = a from fun q => nI_pos (n := n) (by omega) (by rw [q]; exact ha)), ih (i + 1) (n + 1) (by omega) (by omega) (by omega), ih (i + 1) n (by omega) (by omega) (by omega)]
        split <;> rfl
  have h := key FU 0 0 (Nat.zero_le _) (FU_big (by omega)) (by omega)
  rw [nI_0] at h
  exact h
theorem cnt_0 {sc : Nat → Nat} : ∀ {m i : Nat}, cnt sc i m = 0 ↔ ∀ j, i ≤ j → j < i + m → atb sc j = false := by
  intro m
  induction m with
  | zero => intro i; exact ⟨fun _ j a b => by omega, fun _ => rfl⟩
  | succ m ih =>
    intro i
    unfold cnt
    by_cases h : atb sc i = true
    · rw [if_pos h]
      exact ⟨fun e => by omega, fun e => by rw [e i (Nat.le_refl _) (by omega)] at h; cases h⟩
    · rw [if_neg h, Nat.zero_add, ih]
      refine ⟨fun e j a b => ?_, fun e j a b => e j (by omega) (by omega)⟩
      by_cases q : j = i
      · subst q; simpa using h
      · exact e j (by omega) (by omega)
/-- from k on to the next attribute, round -/
def nxt (z : Nat) (sc : Nat → Nat) (k : Nat) : Option Nat := ff (fun n => atb sc ((k + n) % z)) 0 z
theorem nxt_none {z : Nat} {sc : Nat → Nat} {k : Nat} (hz : 0 < z) (hk : k < z) : nxt z sc k = none ↔ cnt sc 0 z = 0 := by
  rw [cnt_0]
  constructor
  · intro h j _ hj
    have hj : j < z := by omega
    have h2 := ff_none h ((j + z - k) % z) (Nat.zero_le _) (by rw [Nat.zero_add]; exact Nat.mod_lt _ hz)
    have e : (k + (j + z - k) % z) % z = j := by
      rw [Nat.add_mod, Nat.mod_mod, ← Nat.add_mod, show k + (j + z - k) = j + z by omega, Nat.add_mod_right, Nat.mod_eq_of_lt hj]
    simp only [e] at h2
    exact h2
  · intro h
    cases e : nxt z sc k with
    | none => rfl
    | some n =>
      have := (ff_some e).2.2.1
      rw [h ((k + n) % z) (Nat.zero_le _) (by rw [Nat.zero_add]; exact Nat.mod_lt _ hz)] at this
      cases this
def toE (z : Nat) (sc : Nat → Nat) (k : Nat) : Nat := match nxt z sc k with
  | some n => n
  | none => z - k
theorem r_toEnd {z : Nat} {f : Nat → Int32} {sc : Nat → Nat} (hz : 0 < z) (hz2 : z ≤ 5676) (hS : SCR z f sc) {k : Nat} (hk : k < z) : f_X6_toEnd (nI z) f (nI k) = some (nI (toE z sc k)) := by
  unfold f_X6_toEnd
  rw [r_fields hz2 hS]
  simp only [Option.bind_some]
  have hc := cnt_le sc z 0
  by_cases h0 : cnt sc 0 z = 0
  · rw [if_pos (show nI (cnt sc 0 z) = 0 by rw [h0]; rfl)]
    unfold toE
    rw [(nxt_none hz hk).mpr h0]
    exact congrArg some (pk_sub (by omega))
  · rw [if_neg (nI_ne0 (by omega) (by omega))]
    unfold toE
    cases e : nxt z sc k with
    | none => exact absurd ((nxt_none hz hk).mp e) h0
    | some n =>
      obtain ⟨-, h2, h3, h4⟩ := ff_some e
      have key : ∀ fu i, i ≤ n → n - i < fu → f_X6_toEnd_L16 (nI z) f fu (nI k) (nI i) = some (nI n) := by
        intro fu
        induction fu with
        | zero => intro i _ h; omega
        | succ fu ih =>
          intro i hi hf
          rw [f_X6_toEnd_L16.eq_2, nI_add, rndA hz hz2 (by omega)]
          simp only [Option.bind_some]
          rw [r_isAtt hz2 hS (Nat.mod_lt _ hz)]
          simp only [Option.bind_some, ifb, nI_1]
          by_cases q : i = n
          · subst q
            rw [if_pos h3]
          · rw [if_neg (by rw [h4 i (Nat.zero_le _) (by omega)]; decide), ih (i + 1) (by omega) (by omega)]
      have h := key FU 0 (Nat.zero_le _) (FU_big (by omega))
      rw [nI_0] at h
      exact h
