/-! A whole stream, both sides at once. -/
section PRF
theorem r_204 (A B la sl : Int32) (st : Nat → Int32) (v1 : Bool) (rw_ co sZ cu : Int32) (lk : Bool) (al rj at_ pl od : Int32) (br sj fr : Bool) (wl : Int32) (sC wb : Nat → Int32) : f_X6_perform_L204 A B la sl st v1 rw_ co sZ cu lk al rj at_ pl od br sj fr wl sC wb = some (rw_, co, sZ, cu, (if (!br && !v1) = true then frL fr lk else true), al, (if (!br && !v1) = true then rj else rj + 1), at_, pl, od, !(!br && !v1), sj, fr, (if (!br && !v1) = true then frW fr wl else wl), sC, wb) := by
  cases v1 <;> cases br <;> cases fr <;> rfl
theorem r_182 (A B la : Int32) (gl : Nat) (hg : gl < 2147483648) (st : Nat → Int32) (v1 : Bool) (rw_ co sZ cu : Int32) (lk : Bool) (al rj pl od : Int32) (br sj fr : Bool) (wl : Int32) (sC wb : Nat → Int32) : f_X6_perform_L182 A B la (nI gl) st v1 rw_ co sZ cu lk al rj (nI gl) pl od br sj fr wl sC wb = f_X6_perform_L204 A B la (nI gl) st v1 rw_ co sZ cu lk al rj (nI gl) pl od br sj fr wl sC wb := by
  unfold f_X6_perform_L182
  cases br with
  | true => rfl
  | false => rw [if_pos (show b2i false = 0 from rfl), if_pos ((nI_leI hg hg).mpr (Nat.le_refl _))]
theorem r_182t (A B la sl : Int32) (st : Nat → Int32) (v1 : Bool) (rw_ co sZ cu : Int32) (lk : Bool) (al rj at_ pl od : Int32) (sj fr : Bool) (wl : Int32) (sC wb : Nat → Int32) : f_X6_perform_L182 A B la sl st v1 rw_ co sZ cu lk al rj at_ pl od true sj fr wl sC wb = some (rw_, co, sZ, cu, true, al, rj + 1, at_, pl, od, true, sj, fr, wl, sC, wb) := by
  show f_X6_perform_L204 A B la sl st v1 rw_ co sZ cu lk al rj at_ pl od true sj fr wl sC wb = _
  cases v1 <;> rfl
theorem r35_rd (A B la sl : Int32) (st : Nat → Int32) (v1 : Bool) (v rw_ co sZ cu : Int32) (lk : Bool) (al rj at_ pl od : Int32) (sj fr : Bool) (wl : Int32) (sC wb : Nat → Int32) (hv : v = 110 ∨ v = 242 ∨ v = 246) :
    f_X6_perform_L35 A B la sl st v1 v rw_ co sZ cu lk al rj at_ pl od false sj fr wl sC wb = if at_ = sl then (if v1 = true then f_X6_perform_L182 A B la sl st v1 rw_ co sZ cu lk al rj at_ pl od true sj fr wl sC wb else Option.bind (f_X6_answer sZ cu wl sC wb la (decide (v = 242))) (fun x => f_X6_perform_L182 A B la sl st v1 rw_ co sZ cu lk al rj at_ pl od false sj fr x.1 sC x.2)) else f_X6_perform_L182 A B la sl st v1 rw_ co sZ cu lk al rj at_ pl od true sj fr wl sC wb := by
  rcases hv with rfl | rfl | rfl <;> (unfold f_X6_perform_L35 f_X6_perform_L56 f_X6_perform_L91; cases v1 <;> rfl)
theorem r35_no (A B la sl : Int32) (st : Nat → Int32) (v1 : Bool) (v rw_ co sZ cu : Int32) (lk : Bool) (al rj at_ pl od : Int32) (sj fr : Bool) (wl : Int32) (sC wb : Nat → Int32) (h1 : ¬ v = 110) (h2 : ¬ v = 111) (h3 : ¬ v = 126) (h4 : ¬ v = 241) (h5 : ¬ v = 242) (h6 : ¬ v = 245) (h7 : ¬ v = 246) :
    f_X6_perform_L35 A B la sl st v1 v rw_ co sZ cu lk al rj at_ pl od false sj fr wl sC wb = f_X6_perform_L182 A B la sl st v1 rw_ co sZ cu lk al rj at_ pl od true sj fr wl sC wb := by
  unfold f_X6_perform_L35
  rw [if_neg h5, if_neg h7, if_neg h1, if_neg h6, if_neg h3]
  unfold f_X6_perform_L91
  rw [if_neg h6, if_neg h3, if_neg h4, if_neg h2]
  rfl
theorem r35_111 (A B la sl : Int32) (st : Nat → Int32) (v1 : Bool) (rw_ co sZ cu : Int32) (lk : Bool) (al rj at_ pl od : Int32) (sj fr : Bool) (wl : Int32) (sC wb : Nat → Int32) :
    f_X6_perform_L35 A B la sl st v1 111 rw_ co sZ cu lk al rj at_ pl od false sj fr wl sC wb = Option.bind (f_X6_eraseInput sZ cu wl sC) (fun x => f_X6_perform_L182 A B la sl st v1 rw_ co sZ x.1 false al rj at_ pl od false sj fr x.2.1 x.2.2 wb) := rfl
theorem r35_241 (A B la sl : Int32) (st : Nat → Int32) (v1 : Bool) (rw_ co sZ cu : Int32) (lk : Bool) (al rj at_ pl od : Int32) (sj fr : Bool) (wl : Int32) (sC wb : Nat → Int32) :
    f_X6_perform_L35 A B la sl st v1 241 rw_ co sZ cu lk al rj at_ pl od false sj fr wl sC wb = Option.bind (f_X6_write sZ cu al sl at_ pl od false sj fr sC st) (fun x => f_X6_perform_L182 A B la sl st v1 rw_ co sZ x.1 lk x.2.1 rj x.2.2.1 x.2.2.2.1 x.2.2.2.2.1 x.2.2.2.2.2.1 x.2.2.2.2.2.2.1 x.2.2.2.2.2.2.2.1 wl x.2.2.2.2.2.2.2.2 wb) := rfl
theorem r35_126 (A B la sl : Int32) (st : Nat → Int32) (v1 : Bool) (rw_ co sZ cu : Int32) (lk : Bool) (al rj at_ pl od : Int32) (sj fr : Bool) (wl : Int32) (sC wb : Nat → Int32) :
    f_X6_perform_L35 A B la sl st v1 126 rw_ co sZ cu lk al rj at_ pl od false sj fr wl sC wb = Option.bind (f_X6_use A B rw_ co sZ cu sC false) (fun u => Option.bind (f_X6_write u.2.2.1 u.2.2.2.1 al sl at_ pl od false sj fr u.2.2.2.2 st) (fun x => f_X6_perform_L182 A B la sl st v1 u.1 u.2.1 u.2.2.1 x.1 lk x.2.1 rj x.2.2.1 x.2.2.2.1 x.2.2.2.2.1 x.2.2.2.2.2.1 x.2.2.2.2.2.2.1 x.2.2.2.2.2.2.2.1 wl x.2.2.2.2.2.2.2.2 wb)) := rfl
theorem r35_245 (A B la sl : Int32) (st : Nat → Int32) (v1 : Bool) (rw_ co sZ cu : Int32) (lk : Bool) (al rj at_ pl od : Int32) (sj fr : Bool) (wl : Int32) (sC wb : Nat → Int32) :
    f_X6_perform_L35 A B la sl st v1 245 rw_ co sZ cu lk al rj at_ pl od false sj fr wl sC wb = Option.bind (f_X6_use A B rw_ co sZ cu sC true) (fun u => Option.bind (f_X6_write u.2.2.1 u.2.2.2.1 al sl at_ pl od false sj fr u.2.2.2.2 st) (fun x => f_X6_perform_L182 A B la sl st v1 u.1 u.2.1 u.2.2.1 x.1 lk x.2.1 rj x.2.2.1 x.2.2.2.1 x.2.2.2.2.1 x.2.2.2.2.2.1 x.2.2.2.2.2.2.1 x.2.2.2.2.2.2.2.1 wl x.2.2.2.2.2.2.2.2 wb)) := rfl
end PRF
