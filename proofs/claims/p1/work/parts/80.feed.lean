/-! feed, end, count (by wip/whole/gen/feed.py) -/
/-- one byte of v more on the class's tape -/
def xp_b (μ : xe_Mem) (v sh : Int32) (s : Nat) : xe_Mem := xe_setI (xe_setI μ 1 s (vp_nar .byte ((v >>> (sh &&& 31)).toInt8.toInt32))) 0 2 (nI s + 1)
def xp_4 (μ : xe_Mem) (v : Int32) (s : Nat) : xe_Mem := xp_b (xp_b (xp_b (xp_b μ v 24 s) v 16 (s + 1)) v 8 (s + 2)) v 0 (s + 3)
section
variable {δ : xe_Dy} {c d : Nat} {μ μ' : xe_Mem} {oc : xe_Out}
theorem xp_b_F {v sh : Int32} {s : Nat} (hF : xF c μ) : xF c (xp_b μ v sh s) := hF
theorem xp_b_s {v sh : Int32} {s : Nat} : xe_I (xp_b μ v sh s) 0 2 = nI (s + 1) := by
  rw [← nI_1]
  exact xu_I
theorem xp_b_o {v sh : Int32} {s a j : Nat} (h0 : a ≠ 0) (h1 : a ≠ 1) : xe_I (xp_b μ v sh s) a j = xe_I μ a j := by
  unfold xp_b
  rw [xu_In (fun h => h0 h.1), xu_In (fun h => h1 h.1)]
theorem xp_it {v sh : Int32} {s : Nat} (hF : xF c μ) (hs : xe_I μ 0 2 = nI s) (hl : s < 3000) (h0 : ¬ sh < 0) (h : xs_G δ d 13 2 [some (.ref 0), some (.int v), some (.int (sh + (-8)))] [] (xp_b μ v sh s) oc μ') : xs_G δ d 13 2 [some (.ref 0), some (.int v), some (.int sh)] [] μ oc μ' := by
  have hs2 : xe_I (xe_setI μ 1 s (vp_nar .byte ((v >>> (sh &&& 31)).toInt8.toInt32))) 0 2 = nI s := by rw [xu_In (by omega)]; exact hs
  refine xs_op rfl rfl ?_
  refine xs_ifltF rfl h0 ?_
  refine xs_op rfl rfl ?_
  refine xs_gR rfl (xF_sh hF rfl) (xF_r hF rfl) ?_
  refine xs_op rfl rfl ?_
  refine xs_gIv rfl (xF_sh hF rfl) hs ?_
  refine xs_op rfl rfl ?_
  refine xs_op rfl rfl ?_
  refine xs_op rfl rfl ?_
  refine xs_op rfl rfl ?_
  refine xs_sI rfl (xF_sh hF rfl) (j := s) (nI_clamp (by omega)) (nI_pos (by omega)) hl ?_
  refine xs_op rfl rfl ?_
  refine xs_op rfl rfl ?_
  refine xs_gIv rfl (xF_sh hF rfl) hs2 ?_
  refine xs_op rfl rfl ?_
  refine xs_op rfl rfl ?_
  refine xs_pI rfl (xF_sh hF rfl) ?_
  refine xs_op rfl rfl ?_
  refine xs_op rfl rfl ?_
  exact h
theorem xp_put {v : Int32} {s : Nat} (hF : xF c μ) (hs : xe_I μ 0 2 = nI s) (hl : s + 4 ≤ 3000) : xs_M δ d 13 [.ref 0, .int v] μ (.inl none) (xp_4 μ v s) := by
  refine xs_op (y := 13) rfl rfl ?_
  refine xs_op rfl rfl ?_
  refine xp_it (sh := 24) hF hs (by omega) (by decide) ?_
  refine xp_it (sh := 16) (s := s + 1) (xp_b_F hF) xp_b_s (by omega) (by decide) ?_
  refine xp_it (sh := 8) (s := s + 2) (xp_b_F (xp_b_F hF)) xp_b_s (by omega) (by decide) ?_
  refine xp_it (sh := 0) (s := s + 3) (xp_b_F (xp_b_F (xp_b_F hF))) xp_b_s (by omega) (by decide) ?_
  refine xs_op rfl rfl ?_
  refine xs_ifltT rfl (by decide) ?_
  exact xs_ret0 rfl
theorem xp_4_F {v : Int32} {s : Nat} (hF : xF c μ) : xF c (xp_4 μ v s) := xp_b_F (xp_b_F (xp_b_F (xp_b_F hF)))
theorem xp_4_s {v : Int32} {s : Nat} : xe_I (xp_4 μ v s) 0 2 = nI (s + 4) := xp_b_s
theorem xp_4_o {v : Int32} {s a j : Nat} (h0 : a ≠ 0) (h1 : a ≠ 1) : xe_I (xp_4 μ v s) a j = xe_I μ a j := by
  unfold xp_4
  rw [xp_b_o h0 h1, xp_b_o h0 h1, xp_b_o h0 h1, xp_b_o h0 h1]
/-- twenty bytes more -/
def xp_20 (μ : xe_Mem) (a b e f g : Int32) (s : Nat) : xe_Mem := xp_4 (xp_4 (xp_4 (xp_4 (xp_4 μ a s) b (s + 4)) e (s + 8)) f (s + 12)) g (s + 16)
theorem xp_20_F {a b e f g : Int32} {s : Nat} (hF : xF c μ) : xF c (xp_20 μ a b e f g s) := xp_4_F (xp_4_F (xp_4_F (xp_4_F (xp_4_F hF))))
theorem xp_20_s {a b e f g : Int32} {s : Nat} : xe_I (xp_20 μ a b e f g s) 0 2 = nI (s + 20) := xp_4_s
theorem xp_20_o {a b e f g : Int32} {s q j : Nat} (h0 : q ≠ 0) (h1 : q ≠ 1) : xe_I (xp_20 μ a b e f g s) q j = xe_I μ q j := by
  unfold xp_20
  rw [xp_4_o h0 h1, xp_4_o h0 h1, xp_4_o h0 h1, xp_4_o h0 h1, xp_4_o h0 h1]
theorem xc_feed_no {a b e f g : Int32} {s : Nat} (hF : xF c μ) (hs : xe_I μ 0 2 = nI s) (hl : 3000 < s + 20) (hb : s ≤ 3000) : xs_M δ d 12 [.ref 0, .int a, .int b, .int e, .int f, .int g] μ (.inl (some (.int 0))) μ := by
  have hx : ¬ nI s + 20 ≤ 3000 := by
    have e1 : (20 : Int32) = nI 20 := by decide
    have e2 : (3000 : Int32) = nI 3000 := by decide
    rw [e1, nI_add, e2]
    exact nI_ge (by omega) (by omega)
  refine xs_op rfl rfl ?_
  refine xs_gIv rfl (xF_sh hF rfl) hs ?_
  refine xs_op rfl rfl ?_
  refine xs_op rfl rfl ?_
  refine xs_op rfl rfl ?_
  refine xs_icleF rfl hx ?_
  refine xs_op rfl rfl ?_
  exact xs_ret3 rfl (Or.inl rfl)
theorem xc_feed_ok {a b e f g : Int32} {s : Nat} (hF : xF c μ) (hs : xe_I μ 0 2 = nI s) (hl : s + 20 ≤ 3000) : xs_M δ (d + 1) 12 [.ref 0, .int a, .int b, .int e, .int f, .int g] μ (.inl (some (.int 1))) (xp_20 μ a b e f g s) := by
  have hx : nI s + 20 ≤ 3000 := by
    have e1 : (20 : Int32) = nI 20 := by decide
    have e2 : (3000 : Int32) = nI 3000 := by decide
    rw [e1, nI_add, e2]
    exact nI_le (by omega) (by omega)
  refine xs_op rfl rfl ?_
  refine xs_gIv rfl (xF_sh hF rfl) hs ?_
  refine xs_op rfl rfl ?_
  refine xs_op rfl rfl ?_
  refine xs_op rfl rfl ?_
  refine xs_icleT rfl hx ?_
  refine xs_op rfl rfl ?_
  refine xs_op rfl rfl ?_
  refine xs_c0 rfl (as := [.ref 0, .int a]) (rest := []) rfl rfl (xe_rcvO (xF_sh hF rfl)) (Nat.le_of_ble_eq_true rfl) (Nat.le_of_ble_eq_true rfl) (by decide) (xp_put (s := s + 0) hF hs (by omega)) ?_
  refine xs_op rfl rfl ?_
  refine xs_op rfl rfl ?_
  refine xs_c0 rfl (as := [.ref 0, .int b]) (rest := []) rfl rfl (xe_rcvO (xF_sh (xp_4_F hF) rfl)) (Nat.le_of_ble_eq_true rfl) (Nat.le_of_ble_eq_true rfl) (by decide) (xp_put (s := s + 4) (xp_4_F hF) xp_4_s (by omega)) ?_
  refine xs_op rfl rfl ?_
  refine xs_op rfl rfl ?_
  refine xs_c0 rfl (as := [.ref 0, .int e]) (rest := []) rfl rfl (xe_rcvO (xF_sh (xp_4_F (xp_4_F hF)) rfl)) (Nat.le_of_ble_eq_true rfl) (Nat.le_of_ble_eq_true rfl) (by decide) (xp_put (s := s + 8) (xp_4_F (xp_4_F hF)) xp_4_s (by omega)) ?_
  refine xs_op rfl rfl ?_
  refine xs_op rfl rfl ?_
  refine xs_c0 rfl (as := [.ref 0, .int f]) (rest := []) rfl rfl (xe_rcvO (xF_sh (xp_4_F (xp_4_F (xp_4_F hF))) rfl)) (Nat.le_of_ble_eq_true rfl) (Nat.le_of_ble_eq_true rfl) (by decide) (xp_put (s := s + 12) (xp_4_F (xp_4_F (xp_4_F hF))) xp_4_s (by omega)) ?_
  refine xs_op rfl rfl ?_
  refine xs_op rfl rfl ?_
  refine xs_c0 rfl (as := [.ref 0, .int g]) (rest := []) rfl rfl (xe_rcvO (xF_sh (xp_4_F (xp_4_F (xp_4_F (xp_4_F hF)))) rfl)) (Nat.le_of_ble_eq_true rfl) (Nat.le_of_ble_eq_true rfl) (by decide) (xp_put (s := s + 16) (xp_4_F (xp_4_F (xp_4_F (xp_4_F hF)))) xp_4_s (by omega)) ?_
  refine xs_op rfl rfl ?_
  exact xs_ret3 rfl (Or.inr rfl)
/-- the word of the q-th byte -/
def xp_w (a b e f g : Int32) (q : Nat) : Int32 := if q < 4 then a else if q < 8 then b else if q < 12 then e else if q < 16 then f else g
def xp_y (a b e f g : Int32) (q : Nat) : Int32 := (xp_w a b e f g q >>> ((24 - 8 * (nI q - nI q / 4 * 4)) &&& 31)) &&& 255
/-- m bytes from the q-th on, on the reference's tape, behind s -/
def xp_m (μ : xe_Mem) (a b e f g : Int32) (s q : Nat) : Nat → xe_Mem
  | 0 => μ
  | m + 1 => xp_m (xe_setI μ 204 (s + q) (xp_y a b e f g q)) a b e f g s (q + 1) m
abbrev xp_ls (a b e f g : Int32) (q : Nat) (l7 : Option Value) : xe_Ls := [some (.ref 203), some (.int a), some (.int b), some (.int e), some (.int f), some (.int g), some (.int (nI q)), l7]
theorem xp_mit {a b e f g : Int32} {s q : Nat} {l7 : Option Value} (hF : xF c μ) (hs : xe_I μ 203 1 = nI s) (hl : s + 20 ≤ 3000) (hq : q < 20) (h : ∀ l7, xs_G δ d 130 11 (xp_ls a b e f g (q + 1) l7) [] (xe_setI μ 204 (s + q) (xp_y a b e f g q)) oc μ') : xs_G δ d 130 11 (xp_ls a b e f g q l7) [] μ oc μ' := by
  have h20 : ¬ (20 : Int32) ≤ nI q := nI_ge (b := 20) (by omega) (by omega)
  by_cases h4 : q < 4
  · refine xs_op rfl rfl ?_
    refine xs_op rfl rfl ?_
    refine xs_icgeF rfl h20 ?_
    refine xs_op rfl rfl ?_
    refine xs_op rfl rfl ?_
    refine xs_icgeF rfl (nI_ge (b := 4) (by omega) (by omega)) ?_
    refine xs_op rfl rfl ?_
    refine xs_op rfl rfl ?_
    refine xs_op rfl rfl ?_
    refine xs_op rfl rfl ?_
    refine xs_gR rfl (xF_sh hF rfl) (xF_r hF rfl) ?_
    refine xs_op rfl rfl ?_
    refine xs_gIv rfl (xF_sh hF rfl) hs ?_
    refine xs_op rfl rfl ?_
    refine xs_op rfl rfl ?_
    refine xs_op rfl rfl ?_
    refine xs_op rfl rfl ?_
    refine xs_op rfl rfl ?_
    refine xs_op rfl rfl ?_
    refine xs_op rfl rfl ?_
    refine xs_i2d rfl (by decide) ?_
    refine xs_op rfl rfl ?_
    refine xs_op rfl rfl ?_
    refine xs_op rfl rfl ?_
    refine xs_op rfl rfl ?_
    refine xs_op rfl rfl ?_
    refine xs_sI rfl (xF_sh hF rfl) (j := s + q) (by show (nI s + nI q).toNatClampNeg = _; rw [nI_add]; exact nI_clamp (by omega)) (by show ¬ nI s + nI q < 0; rw [nI_add]; exact nI_pos (by omega)) (by omega) ?_
    refine xs_op rfl rfl ?_
    refine xs_op rfl rfl ?_
    have hh := h (some (.int a))
    rw [show xp_y a b e f g q = (a >>> ((24 - 8 * (nI q - nI q / 4 * 4)) &&& 31)) &&& 255 by unfold xp_y xp_w; simp only [if_pos h4]] at hh
    simp only [xp_ls, nI_succ] at hh
    exact hh
  · skip
    by_cases h8 : q < 8
    · refine xs_op rfl rfl ?_
      refine xs_op rfl rfl ?_
      refine xs_icgeF rfl h20 ?_
      refine xs_op rfl rfl ?_
      refine xs_op rfl rfl ?_
      refine xs_icgeT rfl (nI_le (a := 4) (by omega) (by omega)) ?_
      refine xs_op rfl rfl ?_
      refine xs_op rfl rfl ?_
      refine xs_icgeF rfl (nI_ge (b := 8) (by omega) (by omega)) ?_
      refine xs_op rfl rfl ?_
      refine xs_op rfl rfl ?_
      refine xs_op rfl rfl ?_
      refine xs_op rfl rfl ?_
      refine xs_gR rfl (xF_sh hF rfl) (xF_r hF rfl) ?_
      refine xs_op rfl rfl ?_
      refine xs_gIv rfl (xF_sh hF rfl) hs ?_
      refine xs_op rfl rfl ?_
      refine xs_op rfl rfl ?_
      refine xs_op rfl rfl ?_
      refine xs_op rfl rfl ?_
      refine xs_op rfl rfl ?_
      refine xs_op rfl rfl ?_
      refine xs_op rfl rfl ?_
      refine xs_i2d rfl (by decide) ?_
      refine xs_op rfl rfl ?_
      refine xs_op rfl rfl ?_
      refine xs_op rfl rfl ?_
      refine xs_op rfl rfl ?_
      refine xs_op rfl rfl ?_
      refine xs_sI rfl (xF_sh hF rfl) (j := s + q) (by show (nI s + nI q).toNatClampNeg = _; rw [nI_add]; exact nI_clamp (by omega)) (by show ¬ nI s + nI q < 0; rw [nI_add]; exact nI_pos (by omega)) (by omega) ?_
      refine xs_op rfl rfl ?_
      refine xs_op rfl rfl ?_
      have hh := h (some (.int b))
      rw [show xp_y a b e f g q = (b >>> ((24 - 8 * (nI q - nI q / 4 * 4)) &&& 31)) &&& 255 by unfold xp_y xp_w; simp only [if_neg h4, if_pos h8]] at hh
      simp only [xp_ls, nI_succ] at hh
      exact hh
    · skip
      by_cases h12 : q < 12
      · refine xs_op rfl rfl ?_
        refine xs_op rfl rfl ?_
        refine xs_icgeF rfl h20 ?_
        refine xs_op rfl rfl ?_
        refine xs_op rfl rfl ?_
        refine xs_icgeT rfl (nI_le (a := 4) (by omega) (by omega)) ?_
        refine xs_op rfl rfl ?_
        refine xs_op rfl rfl ?_
        refine xs_icgeT rfl (nI_le (a := 8) (by omega) (by omega)) ?_
        refine xs_op rfl rfl ?_
        refine xs_op rfl rfl ?_
        refine xs_icgeF rfl (nI_ge (b := 12) (by omega) (by omega)) ?_
        refine xs_op rfl rfl ?_
        refine xs_op rfl rfl ?_
        refine xs_op rfl rfl ?_
        refine xs_op rfl rfl ?_
        refine xs_gR rfl (xF_sh hF rfl) (xF_r hF rfl) ?_
        refine xs_op rfl rfl ?_
        refine xs_gIv rfl (xF_sh hF rfl) hs ?_
        refine xs_op rfl rfl ?_
        refine xs_op rfl rfl ?_
        refine xs_op rfl rfl ?_
        refine xs_op rfl rfl ?_
        refine xs_op rfl rfl ?_
        refine xs_op rfl rfl ?_
        refine xs_op rfl rfl ?_
        refine xs_i2d rfl (by decide) ?_
        refine xs_op rfl rfl ?_
        refine xs_op rfl rfl ?_
        refine xs_op rfl rfl ?_
        refine xs_op rfl rfl ?_
        refine xs_op rfl rfl ?_
        refine xs_sI rfl (xF_sh hF rfl) (j := s + q) (by show (nI s + nI q).toNatClampNeg = _; rw [nI_add]; exact nI_clamp (by omega)) (by show ¬ nI s + nI q < 0; rw [nI_add]; exact nI_pos (by omega)) (by omega) ?_
        refine xs_op rfl rfl ?_
        refine xs_op rfl rfl ?_
        have hh := h (some (.int e))
        rw [show xp_y a b e f g q = (e >>> ((24 - 8 * (nI q - nI q / 4 * 4)) &&& 31)) &&& 255 by unfold xp_y xp_w; simp only [if_neg h4, if_neg h8, if_pos h12]] at hh
        simp only [xp_ls, nI_succ] at hh
        exact hh
      · skip
        by_cases h16 : q < 16
        · refine xs_op rfl rfl ?_
          refine xs_op rfl rfl ?_
          refine xs_icgeF rfl h20 ?_
          refine xs_op rfl rfl ?_
          refine xs_op rfl rfl ?_
          refine xs_icgeT rfl (nI_le (a := 4) (by omega) (by omega)) ?_
          refine xs_op rfl rfl ?_
          refine xs_op rfl rfl ?_
          refine xs_icgeT rfl (nI_le (a := 8) (by omega) (by omega)) ?_
          refine xs_op rfl rfl ?_
          refine xs_op rfl rfl ?_
          refine xs_icgeT rfl (nI_le (a := 12) (by omega) (by omega)) ?_
          refine xs_op rfl rfl ?_
          refine xs_op rfl rfl ?_
          refine xs_icgeF rfl (nI_ge (b := 16) (by omega) (by omega)) ?_
          refine xs_op rfl rfl ?_
          refine xs_op rfl rfl ?_
          refine xs_op rfl rfl ?_
          refine xs_op rfl rfl ?_
          refine xs_gR rfl (xF_sh hF rfl) (xF_r hF rfl) ?_
          refine xs_op rfl rfl ?_
          refine xs_gIv rfl (xF_sh hF rfl) hs ?_
          refine xs_op rfl rfl ?_
          refine xs_op rfl rfl ?_
          refine xs_op rfl rfl ?_
          refine xs_op rfl rfl ?_
          refine xs_op rfl rfl ?_
          refine xs_op rfl rfl ?_
          refine xs_op rfl rfl ?_
          refine xs_i2d rfl (by decide) ?_
          refine xs_op rfl rfl ?_
          refine xs_op rfl rfl ?_
          refine xs_op rfl rfl ?_
          refine xs_op rfl rfl ?_
          refine xs_op rfl rfl ?_
          refine xs_sI rfl (xF_sh hF rfl) (j := s + q) (by show (nI s + nI q).toNatClampNeg = _; rw [nI_add]; exact nI_clamp (by omega)) (by show ¬ nI s + nI q < 0; rw [nI_add]; exact nI_pos (by omega)) (by omega) ?_
          refine xs_op rfl rfl ?_
          refine xs_op rfl rfl ?_
          have hh := h (some (.int f))
          rw [show xp_y a b e f g q = (f >>> ((24 - 8 * (nI q - nI q / 4 * 4)) &&& 31)) &&& 255 by unfold xp_y xp_w; simp only [if_neg h4, if_neg h8, if_neg h12, if_pos h16]] at hh
          simp only [xp_ls, nI_succ] at hh
          exact hh
        · skip
          refine xs_op rfl rfl ?_
          refine xs_op rfl rfl ?_
          refine xs_icgeF rfl h20 ?_
          refine xs_op rfl rfl ?_
          refine xs_op rfl rfl ?_
          refine xs_icgeT rfl (nI_le (a := 4) (by omega) (by omega)) ?_
          refine xs_op rfl rfl ?_
          refine xs_op rfl rfl ?_
          refine xs_icgeT rfl (nI_le (a := 8) (by omega) (by omega)) ?_
          refine xs_op rfl rfl ?_
          refine xs_op rfl rfl ?_
          refine xs_icgeT rfl (nI_le (a := 12) (by omega) (by omega)) ?_
          refine xs_op rfl rfl ?_
          refine xs_op rfl rfl ?_
          refine xs_icgeT rfl (nI_le (a := 16) (by omega) (by omega)) ?_
          refine xs_op rfl rfl ?_
          refine xs_op rfl rfl ?_
          refine xs_op rfl rfl ?_
          refine xs_gR rfl (xF_sh hF rfl) (xF_r hF rfl) ?_
          refine xs_op rfl rfl ?_
          refine xs_gIv rfl (xF_sh hF rfl) hs ?_
          refine xs_op rfl rfl ?_
          refine xs_op rfl rfl ?_
          refine xs_op rfl rfl ?_
          refine xs_op rfl rfl ?_
          refine xs_op rfl rfl ?_
          refine xs_op rfl rfl ?_
          refine xs_op rfl rfl ?_
          refine xs_i2d rfl (by decide) ?_
          refine xs_op rfl rfl ?_
          refine xs_op rfl rfl ?_
          refine xs_op rfl rfl ?_
          refine xs_op rfl rfl ?_
          refine xs_op rfl rfl ?_
          refine xs_sI rfl (xF_sh hF rfl) (j := s + q) (by show (nI s + nI q).toNatClampNeg = _; rw [nI_add]; exact nI_clamp (by omega)) (by show ¬ nI s + nI q < 0; rw [nI_add]; exact nI_pos (by omega)) (by omega) ?_
          refine xs_op rfl rfl ?_
          refine xs_op rfl rfl ?_
          have hh := h (some (.int g))
          rw [show xp_y a b e f g q = (g >>> ((24 - 8 * (nI q - nI q / 4 * 4)) &&& 31)) &&& 255 by unfold xp_y xp_w; simp only [if_neg h4, if_neg h8, if_neg h12, if_neg h16]] at hh
          simp only [xp_ls, nI_succ] at hh
          exact hh
theorem xp_mF {a b e f g : Int32} {s : Nat} : ∀ (m q : Nat) (μ : xe_Mem), xF c μ → xF c (xp_m μ a b e f g s q m) := by
  intro m
  induction m with
  | zero => intro q μ h; exact h
  | succ m ih => intro q μ h; exact ih (q + 1) _ h
theorem xp_mo {a b e f g : Int32} {s i j : Nat} (hi : i ≠ 204) : ∀ (m q : Nat) (μ : xe_Mem), xe_I (xp_m μ a b e f g s q m) i j = xe_I μ i j := by
  intro m
  induction m with
  | zero => intro q μ; rfl
  | succ m ih =>
    intro q μ
    show xe_I (xp_m _ a b e f g s (q + 1) m) i j = _
    rw [ih, xu_In (fun h => hi h.1)]
theorem xp_loop {a b e f g : Int32} {s : Nat} (hl : s + 20 ≤ 3000) : ∀ (m q : Nat) (l7 : Option Value) (μ : xe_Mem), q + m = 20 → xF c μ → xe_I μ 203 1 = nI s → (∀ l7, xs_G δ d 130 56 (xp_ls a b e f g 20 l7) [] (xp_m μ a b e f g s q m) oc μ') → xs_G δ d 130 11 (xp_ls a b e f g q l7) [] μ oc μ' := by
  intro m
  induction m with
  | zero =>
    intro q l7 μ hq hF hs h
    obtain rfl : q = 20 := by omega
    refine xs_op (y := 130) rfl rfl ?_
    refine xs_op rfl rfl ?_
    refine xs_icgeT rfl (by decide) ?_
    exact h l7
  | succ m ih =>
    intro q l7 μ hq hF hs h
    refine xp_mit hF hs hl (by omega) (fun l7' => ?_)
    exact ih (q + 1) l7' _ (by omega) (xF_setI hF) (by rw [xu_In (by omega)]; exact hs) h
/-- the reference's tape and count after a feed -/
def xp_M (μ : xe_Mem) (a b e f g : Int32) (s : Nat) : xe_Mem := xe_setI (xp_m (xe_setI μ 203 0 0) a b e f g s 0 20) 203 1 (nI s + 20)
theorem xr_feed_no {a b e f g : Int32} (hF : xF c μ) (hs : xe_I μ 203 1 = nI 3000) : xs_M δ d 130 [.ref 203, .int a, .int b, .int e, .int f, .int g] μ (.inl (some (.int 0))) (xe_setI μ 203 0 0) := by
  have hs2 : xe_I (xe_setI μ 203 0 0) 203 1 = nI 3000 := by rw [xu_In (by omega)]; exact hs
  refine xs_op rfl rfl ?_
  refine xs_op rfl rfl ?_
  refine xs_pI rfl (xF_sh hF rfl) ?_
  refine xs_op rfl rfl ?_
  refine xs_gIv rfl (xF_sh hF rfl) hs2 ?_
  refine xs_op rfl rfl ?_
  refine xs_icneF rfl (by decide) ?_
  refine xs_op rfl rfl ?_
  exact xs_ret3 rfl (Or.inl rfl)
theorem xr_feed_ok {a b e f g : Int32} {s : Nat} (hF : xF c μ) (hs : xe_I μ 203 1 = nI s) (hl : s + 20 ≤ 3000) : xs_M δ d 130 [.ref 203, .int a, .int b, .int e, .int f, .int g] μ (.inl (some (.int 1))) (xp_M μ a b e f g s) := by
  have hs2 : xe_I (xe_setI μ 203 0 0) 203 1 = nI s := by rw [xu_In (by omega)]; exact hs
  have hx : ¬ nI s = 3000 := fun hc => by
    have e2 : (3000 : Int32) = nI 3000 := by decide
    rw [e2, nI_eq (by omega) (by omega)] at hc
    omega
  refine xs_op rfl rfl ?_
  refine xs_op rfl rfl ?_
  refine xs_pI rfl (xF_sh hF rfl) ?_
  refine xs_op rfl rfl ?_
  refine xs_gIv rfl (xF_sh hF rfl) hs2 ?_
  refine xs_op rfl rfl ?_
  refine xs_icneT rfl hx ?_
  refine xs_op rfl rfl ?_
  refine xs_op rfl rfl ?_
  refine xp_loop hl 20 0 none _ rfl (xF_setI hF) hs2 (fun l7 => ?_)
  have hF2 := xp_mF (a := a) (b := b) (e := e) (f := f) (g := g) (s := s) 20 0 _ (xF_setI (a := 203) (j := 0) (v := 0) hF)
  have hs3 : xe_I (xp_m (xe_setI μ 203 0 0) a b e f g s 0 20) 203 1 = nI s := by rw [xp_mo (by decide)]; exact hs2
  refine xs_op rfl rfl ?_
  refine xs_op rfl rfl ?_
  refine xs_gIv rfl (xF_sh hF2 rfl) hs3 ?_
  refine xs_op rfl rfl ?_
  refine xs_op rfl rfl ?_
  refine xs_pI rfl (xF_sh hF2 rfl) ?_
  refine xs_op rfl rfl ?_
  exact xs_ret3 rfl (Or.inr rfl)
end
