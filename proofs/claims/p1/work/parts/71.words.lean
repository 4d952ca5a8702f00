/-! the law's start (by wip/whole/gen/start.py) -/
theorem xl_w {w : Cond} (i : Nat) (h : tables_1[i]? = some w) : w ∈ lw_tbl := List.mem_append_right _ (List.mem_of_getElem? h)
/-- the words that lay the enum's constants -/
def xl_ks : List Nat := [642, 648, 751, 767, 781, 805, 833, 842, 852, 862, 864, 765, 799, 749, 870, 733, 829, 831, 1721, 1722, 1723, 823, 1724, 1725, 1726, 567, 632, 549, 565]
theorem xl_kinds : ∀ i, i < 29 → tables_1[xl_ks.getD i 0]? = some (Cond.laysStatic "LogicalTimes$Kind" (xg_kn.getD i "") "LLogicalTimes$Kind;") := by decide +kernel
theorem xl_kind {i : Nat} (h : i < 29) : Cond.laysStatic "LogicalTimes$Kind" (xg_kn.getD i "") "LLogicalTimes$Kind;" ∈ lw_tbl := xl_w _ (xl_kinds i h)
/-- the classes that can be made -/
def xl_cs : List (Nat × Nat) := [(74, 8), (118, 5), (110, 13), (374, 4), (68, 8), (368, 12), (211, 7), (433, 13), (205, 15), (38, 5), (30, 8), (1152, 87), (657, 6), (1031, 6), (959, 6)]
theorem xl_cls : ∀ i, i < 15 → tables_1[(xl_cs.getD i (0, 0)).1]? = some (Cond.instantiable ((xg_cl.map (fun q => q.1)).getD i "") (xl_cs.getD i (0, 0)).2) := by decide +kernel
theorem xl_uws : ∀ (i : Nat) (q : vw_C), xg_cl[i]? = some q → ∀ w ∈ u_ws q.1 q.2.1 q.2.2, w ∈ xg_tb := by
  intro i q h
  have hi : i < 15 := (List.getElem?_eq_some_iff.mp h).1
  match i, hi, h with
  | 0, _, h => cases h; exact xK0.2.1
  | 1, _, h => cases h; exact xK1.2.1
  | 2, _, h => cases h; exact xK2.2.1
  | 3, _, h => cases h; exact xK3.2.1
  | 4, _, h => cases h; exact xK4.2.1
  | 5, _, h => cases h; exact xK5.2.1
  | 6, _, h => cases h; exact xK6.2.1
  | 7, _, h => cases h; exact xK7.2.1
  | 8, _, h => cases h; exact xK8.2.1
  | 9, _, h => cases h; exact xK9.2.1
  | 10, _, h => cases h; exact xK10.2.1
  | 11, _, h => cases h; exact xK11.2.1
  | 12, _, h => cases h; intro w hw; simp [u_ws] at hw
  | 13, _, h => cases h; intro w hw; simp [u_ws] at hw
  | 14, _, h => cases h; intro w hw; simp [u_ws] at hw
def xl_si : List Nat := [144, 150, 153, 156, 159, 162, 165, 168, 171, 174, 177, 180, 183, 186, 189, 192, 195, 198, 201, 204, 207, 210, 213, 216, 219, 222, 222, 222, 222]
