/-! methods as functions (by wip/whole/gen/dec.py) -/
/-! 176 LogicalTimesModel.slotOf(II)I -/
def zD176_23 (c2 : Int32 → Int32 → Int32 → xe_Mem → zO) (v1 : Int32) (v2 : Int32) (v3 : Int32) (μ : xe_Mem) : zO := c2 v1 v2 (v3 + (1)) μ
def zD176_2_b (c2 : Int32 → Int32 → Int32 → xe_Mem → zO) (v1 : Int32) (v2 : Int32) (v3 : Int32) (μ : xe_Mem) : zO := if (xe_I μ 203 43) ≤ v3 then some (.inl (some (.int ((-1)))), μ) else zq_x v3 480 fun j1 => if (xe_I μ 236 j1) = v1 then zq_x v3 480 fun j5 => if (xe_I μ 238 j5) = v2 then zq_x v3 480 fun j9 => some (.inl (some (.int (xe_I μ 237 j9))), μ) else zD176_23 c2 v1 v2 v3 μ else zD176_23 c2 v1 v2 v3 μ
def zD176_2   : Nat → Int32 → Int32 → Int32 → xe_Mem → zO
  | 0 => fun _ _ _ _  => none
  | n + 1 => zD176_2_b   (zD176_2   n)
def zD176  (a1 : Int32) (a2 : Int32) (μ : xe_Mem) : zO := zD176_2 zfu a1 a2 0 μ
theorem zD176_23_ok {μ0 : xe_Mem} {δ : xe_Dy} {d : Nat} (hd : 0 ≤ d) {c2 : Int32 → Int32 → Int32 → xe_Mem → zO} (hc2 : ∀ (v1 : Int32) (v2 : Int32) (v3 : Int32) (μ : xe_Mem), zT zPr μ0 μ → zK zPr μ0 δ d 176 2 [some (.ref 203), some (.int v1), some (.int v2), some (.int v3)] [] μ (c2 v1 v2 v3 μ)) : ∀ (v1 : Int32) (v2 : Int32) (v3 : Int32) (μ : xe_Mem), zT zPr μ0 μ → zK zPr μ0 δ d 176 23 [some (.ref 203), some (.int v1), some (.int v2), some (.int v3)] [] μ (zD176_23  c2 v1 v2 v3 μ) := by
  intro v1 v2 v3 μ hT
  unfold zD176_23
  refine zK_op rfl rfl ?_
  refine zK_op rfl rfl ?_
  exact hc2 v1 v2 (v3 + (1)) μ hT
theorem zD176_2_bok {μ0 : xe_Mem} {δ : xe_Dy} {d : Nat} (hd : 0 ≤ d)  {c2 : Int32 → Int32 → Int32 → xe_Mem → zO} (hc2 : ∀ (v1 : Int32) (v2 : Int32) (v3 : Int32) (μ : xe_Mem), zT zPr μ0 μ → zK zPr μ0 δ d 176 2 [some (.ref 203), some (.int v1), some (.int v2), some (.int v3)] [] μ (c2 v1 v2 v3 μ)) : ∀ (v1 : Int32) (v2 : Int32) (v3 : Int32) (μ : xe_Mem), zT zPr μ0 μ → zK zPr μ0 δ d 176 2 [some (.ref 203), some (.int v1), some (.int v2), some (.int v3)] [] μ (zD176_2_b  c2 v1 v2 v3 μ) := by
  intro v1 v2 v3 μ hT
  unfold zD176_2_b
  refine zK_op rfl rfl ?_
  refine zK_op rfl rfl ?_
  refine zK_gI rfl rfl hT ?_
  refine zK_icge rfl (fun _ => ?_) (fun _ => ?_)
  · refine zK_op rfl rfl ?_
    exact zK_ret1 rfl hT
  refine zK_op rfl rfl ?_
  refine zK_gRl (b := 236) rfl rfl rfl hT ?_
  refine zK_op rfl rfl ?_
  refine zK_x (fun j1 h2 h3 h4 => ?_)
  refine zK_aI rfl rfl hT h2 h3 h4 ?_
  refine zK_op rfl rfl ?_
  refine zK_icne rfl (fun _ => ?_) (fun _ => ?_)
  · refine zK_op rfl rfl ?_
    refine zK_gRl (b := 238) rfl rfl rfl hT ?_
    refine zK_op rfl rfl ?_
    refine zK_x (fun j5 h6 h7 h8 => ?_)
    refine zK_aI rfl rfl hT h6 h7 h8 ?_
    refine zK_op rfl rfl ?_
    refine zK_icne rfl (fun _ => ?_) (fun _ => ?_)
    · refine zK_op rfl rfl ?_
      refine zK_gRl (b := 237) rfl rfl rfl hT ?_
      refine zK_op rfl rfl ?_
      refine zK_x (fun j9 h10 h11 h12 => ?_)
      refine zK_aI rfl rfl hT h10 h11 h12 ?_
      exact zK_ret1 rfl hT
    exact zD176_23_ok hd hc2 v1 v2 v3 μ hT
  exact zD176_23_ok hd hc2 v1 v2 v3 μ hT
theorem zD176_2_ok {μ0 : xe_Mem} {δ : xe_Dy} {d : Nat} (hd : 0 ≤ d)  : ∀ n : Nat, ∀ (v1 : Int32) (v2 : Int32) (v3 : Int32) (μ : xe_Mem), zT zPr μ0 μ → zK zPr μ0 δ d 176 2 [some (.ref 203), some (.int v1), some (.int v2), some (.int v3)] [] μ (zD176_2  n v1 v2 v3 μ) := by
  intro n
  induction n with
  | zero => exact fun _ _ _ _ _  => fun o μ' h => by cases h
  | succ n ih => exact zD176_2_bok hd   ih
theorem zD176_ok {μ0 : xe_Mem} {δ : xe_Dy} {d : Nat} (hd : 0 ≤ d) (a1 : Int32) (a2 : Int32) (μ : xe_Mem) (hT : zT zPr μ0 μ) : zK zPr μ0 δ d 176 0 (xe_init [.ref 203, .int a1, .int a2] (xM_L 176)) [] μ (zD176 a1 a2 μ) := by
  unfold zD176
  show zK zPr μ0 δ d 176 0 [some (.ref 203), some (.int a1), some (.int a2), none] [] μ _
  refine zK_op rfl rfl ?_
  refine zK_op rfl rfl ?_
  exact zD176_2_ok hd zfu a1 a2 0 μ hT
/-! 175 LogicalTimesModel.messageFor(II)I -/
def zD175_84 (c6 : Int32 → Int32 → Int32 → Int32 → Int32 → xe_Mem → zO) (v1 : Int32) (v2 : Int32) (v3 : Int32) (v4 : Int32) (v5 : Int32) (μ : xe_Mem) : zO := c6 v1 v2 v3 v4 (v5 + (1)) μ
def zD175_82 (c31 : Int32 → Int32 → Int32 → Int32 → Int32 → Int32 → Int32 → Int32 → xe_Mem → zO) (v1 : Int32) (v2 : Int32) (v3 : Int32) (v4 : Int32) (v5 : Int32) (v6 : Int32) (v7 : Int32) (v8 : Int32) (μ : xe_Mem) : zO := c31 v1 v2 v3 v4 v5 v6 v7 (v8 + (1)) μ
def zD175_75 (c31 : Int32 → Int32 → Int32 → Int32 → Int32 → Int32 → Int32 → Int32 → xe_Mem → zO) (v1 : Int32) (v2 : Int32) (v5 : Int32) (v6 : Int32) (v7 : Int32) (v8 : Int32) (v9 : Int32) (μ : xe_Mem) : zO := zq_cI (zD173 v5 v2 μ) fun x27 m25 => zD175_82 c31 v1 v2 v9 x27 v5 v6 v7 v8 m25
def zD175_63 (c31 : Int32 → Int32 → Int32 → Int32 → Int32 → Int32 → Int32 → Int32 → xe_Mem → zO) (v1 : Int32) (v2 : Int32) (v3 : Int32) (v4 : Int32) (v5 : Int32) (v6 : Int32) (v7 : Int32) (v8 : Int32) (v9 : Int32) (s0 : Int32) (μ : xe_Mem) : zO := if s0 = 0 then zD175_82 c31 v1 v2 v3 v4 v5 v6 v7 v8 μ else if v3 < 0 then zD175_75 c31 v1 v2 v5 v6 v7 v8 v9 μ else zq_cI (zD173 v5 v2 μ) fun x30 m28 => if x30 < v4 then zD175_75 c31 v1 v2 v5 v6 v7 v8 v9 m28 else zD175_82 c31 v1 v2 v3 v4 v5 v6 v7 v8 m28
def zD175_62 (c31 : Int32 → Int32 → Int32 → Int32 → Int32 → Int32 → Int32 → Int32 → xe_Mem → zO) (v1 : Int32) (v2 : Int32) (v3 : Int32) (v4 : Int32) (v5 : Int32) (v6 : Int32) (v7 : Int32) (v8 : Int32) (v9 : Int32) (μ : xe_Mem) : zO := zD175_63 c31 v1 v2 v3 v4 v5 v6 v7 v8 v9 0 μ
def zD175_31_b (c6 : Int32 → Int32 → Int32 → Int32 → Int32 → xe_Mem → zO) (c31 : Int32 → Int32 → Int32 → Int32 → Int32 → Int32 → Int32 → Int32 → xe_Mem → zO) (v1 : Int32) (v2 : Int32) (v3 : Int32) (v4 : Int32) (v5 : Int32) (v6 : Int32) (v7 : Int32) (v8 : Int32) (μ : xe_Mem) : zO := if v7 ≤ v8 then zD175_84 c6 v1 v2 v3 v4 v5 μ else zq_x v5 24 fun j16 => zq_vI (((xe_I μ 229 j16) + (v6 * v7)) + v8) fun x20 => zq_x ((120 * v5) + v6) 2880 fun j21 => if v2 < (xe_I μ 230 j21) then zD175_62 c31 v1 v2 v3 v4 v5 v6 v7 v8 x20 μ else zq_cI (zD176 v1 x20 μ) fun x33 m31 => if 0 ≤ x33 then zD175_62 c31 v1 v2 v3 v4 v5 v6 v7 v8 x20 m31 else zD175_63 c31 v1 v2 v3 v4 v5 v6 v7 v8 x20 1 m31
def zD175_31  (c6 : Int32 → Int32 → Int32 → Int32 → Int32 → xe_Mem → zO) : Nat → Int32 → Int32 → Int32 → Int32 → Int32 → Int32 → Int32 → Int32 → xe_Mem → zO
  | 0 => fun _ _ _ _ _ _ _ _ _  => none
  | n + 1 => zD175_31_b  c6 (zD175_31  c6 n)
def zD175_6_b (c6 : Int32 → Int32 → Int32 → Int32 → Int32 → xe_Mem → zO) (v1 : Int32) (v2 : Int32) (v3 : Int32) (v4 : Int32) (v5 : Int32) (μ : xe_Mem) : zO := if (xe_I μ 203 22) ≤ v5 then some (.inl (some (.int v3)), μ) else zq_x v5 24 fun j1 => if (xe_I μ 218 j1) = v1 then zq_x v5 24 fun j5 => zq_d (xe_I μ 221 j5) <| zq_vI (v2 / (xe_I μ 221 j5)) fun x10 => zq_x v5 24 fun j11 => zq_vI (xe_I μ 228 j11) fun x15 => zD175_31 c6 zfu v1 v2 v3 v4 v5 x10 x15 0 μ else zD175_84 c6 v1 v2 v3 v4 v5 μ
def zD175_6   : Nat → Int32 → Int32 → Int32 → Int32 → Int32 → xe_Mem → zO
  | 0 => fun _ _ _ _ _ _  => none
  | n + 1 => zD175_6_b   (zD175_6   n)
def zD175  (a1 : Int32) (a2 : Int32) (μ : xe_Mem) : zO := zD175_6 zfu a1 a2 ((-1)) 0 0 μ
theorem zD175_84_ok {μ0 : xe_Mem} {δ : xe_Dy} {d : Nat} (hd : 1 ≤ d) {c6 : Int32 → Int32 → Int32 → Int32 → Int32 → xe_Mem → zO} (hc6 : ∀ (v1 : Int32) (v2 : Int32) (v3 : Int32) (v4 : Int32) (v5 : Int32) (l6 : Option Value) (l7 : Option Value) (l8 : Option Value) (l9 : Option Value) (l10 : Option Value) (μ : xe_Mem), zT zPr μ0 μ → zK zPr μ0 δ d 175 6 [some (.ref 203), some (.int v1), some (.int v2), some (.int v3), some (.int v4), some (.int v5), l6, l7, l8, l9, l10] [] μ (c6 v1 v2 v3 v4 v5 μ)) : ∀ (v1 : Int32) (v2 : Int32) (v3 : Int32) (v4 : Int32) (v5 : Int32) (l6 : Option Value) (l7 : Option Value) (l8 : Option Value) (l9 : Option Value) (l10 : Option Value) (μ : xe_Mem), zT zPr μ0 μ → zK zPr μ0 δ d 175 84 [some (.ref 203), some (.int v1), some (.int v2), some (.int v3), some (.int v4), some (.int v5), l6, l7, l8, l9, l10] [] μ (zD175_84  c6 v1 v2 v3 v4 v5 μ) := by
  intro v1 v2 v3 v4 v5 l6 l7 l8 l9 l10 μ hT
  unfold zD175_84
  refine zK_op rfl rfl ?_
  refine zK_op rfl rfl ?_
  exact hc6 v1 v2 v3 v4 (v5 + (1)) _ _ _ _ _ μ hT
theorem zD175_82_ok {μ0 : xe_Mem} {δ : xe_Dy} {d : Nat} (hd : 1 ≤ d) {c31 : Int32 → Int32 → Int32 → Int32 → Int32 → Int32 → Int32 → Int32 → xe_Mem → zO} (hc31 : ∀ (v1 : Int32) (v2 : Int32) (v3 : Int32) (v4 : Int32) (v5 : Int32) (v6 : Int32) (v7 : Int32) (v8 : Int32) (l9 : Option Value) (l10 : Option Value) (μ : xe_Mem), zT zPr μ0 μ → zK zPr μ0 δ d 175 31 [some (.ref 203), some (.int v1), some (.int v2), some (.int v3), some (.int v4), some (.int v5), some (.int v6), some (.int v7), some (.int v8), l9, l10] [] μ (c31 v1 v2 v3 v4 v5 v6 v7 v8 μ)) : ∀ (v1 : Int32) (v2 : Int32) (v3 : Int32) (v4 : Int32) (v5 : Int32) (v6 : Int32) (v7 : Int32) (v8 : Int32) (l9 : Option Value) (l10 : Option Value) (μ : xe_Mem), zT zPr μ0 μ → zK zPr μ0 δ d 175 82 [some (.ref 203), some (.int v1), some (.int v2), some (.int v3), some (.int v4), some (.int v5), some (.int v6), some (.int v7), some (.int v8), l9, l10] [] μ (zD175_82  c31 v1 v2 v3 v4 v5 v6 v7 v8 μ) := by
  intro v1 v2 v3 v4 v5 v6 v7 v8 l9 l10 μ hT
  unfold zD175_82
  refine zK_op rfl rfl ?_
  refine zK_op rfl rfl ?_
  exact hc31 v1 v2 v3 v4 v5 v6 v7 (v8 + (1)) _ _ μ hT
theorem zD175_75_ok {μ0 : xe_Mem} {δ : xe_Dy} {d : Nat} (hd : 1 ≤ d) {c31 : Int32 → Int32 → Int32 → Int32 → Int32 → Int32 → Int32 → Int32 → xe_Mem → zO} (hc31 : ∀ (v1 : Int32) (v2 : Int32) (v3 : Int32) (v4 : Int32) (v5 : Int32) (v6 : Int32) (v7 : Int32) (v8 : Int32) (l9 : Option Value) (l10 : Option Value) (μ : xe_Mem), zT zPr μ0 μ → zK zPr μ0 δ d 175 31 [some (.ref 203), some (.int v1), some (.int v2), some (.int v3), some (.int v4), some (.int v5), some (.int v6), some (.int v7), some (.int v8), l9, l10] [] μ (c31 v1 v2 v3 v4 v5 v6 v7 v8 μ)) : ∀ (v1 : Int32) (v2 : Int32) (v5 : Int32) (v6 : Int32) (v7 : Int32) (v8 : Int32) (v9 : Int32) (l3 : Option Value) (l4 : Option Value) (l10 : Option Value) (μ : xe_Mem), zT zPr μ0 μ → zK zPr μ0 δ d 175 75 [some (.ref 203), some (.int v1), some (.int v2), l3, l4, some (.int v5), some (.int v6), some (.int v7), some (.int v8), some (.int v9), l10] [] μ (zD175_75  c31 v1 v2 v5 v6 v7 v8 v9 μ) := by
  intro v1 v2 v5 v6 v7 v8 v9 l3 l4 l10 μ hT
  unfold zD175_75
  refine zK_op rfl rfl ?_
  refine zK_op rfl rfl ?_
  refine zK_op rfl rfl ?_
  refine zK_op rfl rfl ?_
  refine zK_op rfl rfl ?_
  refine zK_cI rfl (as := [.ref 203, .int v5, .int v2]) (rest := []) rfl rfl (xe_rcvO (zT_sh hT rfl)) (Nat.le_of_ble_eq_true rfl) (Nat.le_of_ble_eq_true rfl) (by decide) (fun _ => rfl) (by omega) (zD173_ok (by omega) v5 v2 μ hT) (fun x27 m25 T26 => ?_)
  refine zK_op rfl rfl ?_
  exact zD175_82_ok hd hc31 v1 v2 v9 x27 v5 v6 v7 v8 _ _ m25 T26
theorem zD175_63_ok {μ0 : xe_Mem} {δ : xe_Dy} {d : Nat} (hd : 1 ≤ d) {c31 : Int32 → Int32 → Int32 → Int32 → Int32 → Int32 → Int32 → Int32 → xe_Mem → zO} (hc31 : ∀ (v1 : Int32) (v2 : Int32) (v3 : Int32) (v4 : Int32) (v5 : Int32) (v6 : Int32) (v7 : Int32) (v8 : Int32) (l9 : Option Value) (l10 : Option Value) (μ : xe_Mem), zT zPr μ0 μ → zK zPr μ0 δ d 175 31 [some (.ref 203), some (.int v1), some (.int v2), some (.int v3), some (.int v4), some (.int v5), some (.int v6), some (.int v7), some (.int v8), l9, l10] [] μ (c31 v1 v2 v3 v4 v5 v6 v7 v8 μ)) : ∀ (v1 : Int32) (v2 : Int32) (v3 : Int32) (v4 : Int32) (v5 : Int32) (v6 : Int32) (v7 : Int32) (v8 : Int32) (v9 : Int32) (s0 : Int32) (l10 : Option Value) (μ : xe_Mem), zT zPr μ0 μ → zK zPr μ0 δ d 175 63 [some (.ref 203), some (.int v1), some (.int v2), some (.int v3), some (.int v4), some (.int v5), some (.int v6), some (.int v7), some (.int v8), some (.int v9), l10] [.int s0] μ (zD175_63  c31 v1 v2 v3 v4 v5 v6 v7 v8 v9 s0 μ) := by
  intro v1 v2 v3 v4 v5 v6 v7 v8 v9 s0 l10 μ hT
  unfold zD175_63
  refine zK_op rfl rfl ?_
  refine zK_op rfl rfl ?_
  refine zK_ifeq rfl (fun _ => ?_) (fun _ => ?_)
  · exact zD175_82_ok hd hc31 v1 v2 v3 v4 v5 v6 v7 v8 _ _ μ hT
  refine zK_op rfl rfl ?_
  refine zK_iflt rfl (fun _ => ?_) (fun _ => ?_)
  · exact zD175_75_ok hd hc31 v1 v2 v5 v6 v7 v8 v9 _ _ _ μ hT
  refine zK_op rfl rfl ?_
  refine zK_op rfl rfl ?_
  refine zK_op rfl rfl ?_
  refine zK_cI rfl (as := [.ref 203, .int v5, .int v2]) (rest := []) rfl rfl (xe_rcvO (zT_sh hT rfl)) (Nat.le_of_ble_eq_true rfl) (Nat.le_of_ble_eq_true rfl) (by decide) (fun _ => rfl) (by omega) (zD173_ok (by omega) v5 v2 μ hT) (fun x30 m28 T29 => ?_)
  refine zK_op rfl rfl ?_
  refine zK_iclt rfl (fun _ => ?_) (fun _ => ?_)
  · exact zD175_75_ok hd hc31 v1 v2 v5 v6 v7 v8 v9 _ _ _ m28 T29
  refine zK_op rfl rfl ?_
  exact zD175_82_ok hd hc31 v1 v2 v3 v4 v5 v6 v7 v8 _ _ m28 T29
theorem zD175_62_ok {μ0 : xe_Mem} {δ : xe_Dy} {d : Nat} (hd : 1 ≤ d) {c31 : Int32 → Int32 → Int32 → Int32 → Int32 → Int32 → Int32 → Int32 → xe_Mem → zO} (hc31 : ∀ (v1 : Int32) (v2 : Int32) (v3 : Int32) (v4 : Int32) (v5 : Int32) (v6 : Int32) (v7 : Int32) (v8 : Int32) (l9 : Option Value) (l10 : Option Value) (μ : xe_Mem), zT zPr μ0 μ → zK zPr μ0 δ d 175 31 [some (.ref 203), some (.int v1), some (.int v2), some (.int v3), some (.int v4), some (.int v5), some (.int v6), some (.int v7), some (.int v8), l9, l10] [] μ (c31 v1 v2 v3 v4 v5 v6 v7 v8 μ)) : ∀ (v1 : Int32) (v2 : Int32) (v3 : Int32) (v4 : Int32) (v5 : Int32) (v6 : Int32) (v7 : Int32) (v8 : Int32) (v9 : Int32) (l10 : Option Value) (μ : xe_Mem), zT zPr μ0 μ → zK zPr μ0 δ d 175 62 [some (.ref 203), some (.int v1), some (.int v2), some (.int v3), some (.int v4), some (.int v5), some (.int v6), some (.int v7), some (.int v8), some (.int v9), l10] [] μ (zD175_62  c31 v1 v2 v3 v4 v5 v6 v7 v8 v9 μ) := by
  intro v1 v2 v3 v4 v5 v6 v7 v8 v9 l10 μ hT
  unfold zD175_62
  refine zK_op rfl rfl ?_
  exact zD175_63_ok hd hc31 v1 v2 v3 v4 v5 v6 v7 v8 v9 0 _ μ hT
theorem zD175_31_bok {μ0 : xe_Mem} {δ : xe_Dy} {d : Nat} (hd : 1 ≤ d) {c6 : Int32 → Int32 → Int32 → Int32 → Int32 → xe_Mem → zO} (hc6 : ∀ (v1 : Int32) (v2 : Int32) (v3 : Int32) (v4 : Int32) (v5 : Int32) (l6 : Option Value) (l7 : Option Value) (l8 : Option Value) (l9 : Option Value) (l10 : Option Value) (μ : xe_Mem), zT zPr μ0 μ → zK zPr μ0 δ d 175 6 [some (.ref 203), some (.int v1), some (.int v2), some (.int v3), some (.int v4), some (.int v5), l6, l7, l8, l9, l10] [] μ (c6 v1 v2 v3 v4 v5 μ)) {c31 : Int32 → Int32 → Int32 → Int32 → Int32 → Int32 → Int32 → Int32 → xe_Mem → zO} (hc31 : ∀ (v1 : Int32) (v2 : Int32) (v3 : Int32) (v4 : Int32) (v5 : Int32) (v6 : Int32) (v7 : Int32) (v8 : Int32) (l9 : Option Value) (l10 : Option Value) (μ : xe_Mem), zT zPr μ0 μ → zK zPr μ0 δ d 175 31 [some (.ref 203), some (.int v1), some (.int v2), some (.int v3), some (.int v4), some (.int v5), some (.int v6), some (.int v7), some (.int v8), l9, l10] [] μ (c31 v1 v2 v3 v4 v5 v6 v7 v8 μ)) : ∀ (v1 : Int32) (v2 : Int32) (v3 : Int32) (v4 : Int32) (v5 : Int32) (v6 : Int32) (v7 : Int32) (v8 : Int32) (l9 : Option Value) (l10 : Option Value) (μ : xe_Mem), zT zPr μ0 μ → zK zPr μ0 δ d 175 31 [some (.ref 203), some (.int v1), some (.int v2), some (.int v3), some (.int v4), some (.int v5), some (.int v6), some (.int v7), some (.int v8), l9, l10] [] μ (zD175_31_b  c6 c31 v1 v2 v3 v4 v5 v6 v7 v8 μ) := by
  intro v1 v2 v3 v4 v5 v6 v7 v8 l9 l10 μ hT
  unfold zD175_31_b
  refine zK_op rfl rfl ?_
  refine zK_op rfl rfl ?_
  refine zK_icge rfl (fun _ => ?_) (fun _ => ?_)
  · exact zD175_84_ok hd hc6 v1 v2 v3 v4 v5 _ _ _ _ _ μ hT
  refine zK_op rfl rfl ?_
  refine zK_gRl (b := 229) rfl rfl rfl hT ?_
  refine zK_op rfl rfl ?_
  refine zK_x (fun j16 h17 h18 h19 => ?_)
  refine zK_aI rfl rfl hT h17 h18 h19 ?_
  refine zK_op rfl rfl ?_
  refine zK_op rfl rfl ?_
  refine zK_op rfl rfl ?_
  refine zK_op rfl rfl ?_
  refine zK_op rfl rfl ?_
  refine zK_op rfl rfl ?_
  refine zK_vI (fun x20 => ?_)
  refine zK_op rfl rfl ?_
  refine zK_op rfl rfl ?_
  refine zK_gRl (b := 230) rfl rfl rfl hT ?_
  refine zK_op rfl rfl ?_
  refine zK_op rfl rfl ?_
  refine zK_op rfl rfl ?_
  refine zK_op rfl rfl ?_
  refine zK_op rfl rfl ?_
  refine zK_x (fun j21 h22 h23 h24 => ?_)
  refine zK_aI rfl rfl hT h22 h23 h24 ?_
  refine zK_op rfl rfl ?_
  refine zK_icgt rfl (fun _ => ?_) (fun _ => ?_)
  · exact zD175_62_ok hd hc31 v1 v2 v3 v4 v5 v6 v7 v8 x20 _ μ hT
  refine zK_op rfl rfl ?_
  refine zK_op rfl rfl ?_
  refine zK_op rfl rfl ?_
  refine zK_cI rfl (as := [.ref 203, .int v1, .int x20]) (rest := []) rfl rfl (xe_rcvO (zT_sh hT rfl)) (Nat.le_of_ble_eq_true rfl) (Nat.le_of_ble_eq_true rfl) (by decide) (fun _ => rfl) (by omega) (zD176_ok (by omega) v1 x20 μ hT) (fun x33 m31 T32 => ?_)
  refine zK_ifge rfl (fun _ => ?_) (fun _ => ?_)
  · exact zD175_62_ok hd hc31 v1 v2 v3 v4 v5 v6 v7 v8 x20 _ m31 T32
  refine zK_op rfl rfl ?_
  refine zK_op rfl rfl ?_
  exact zD175_63_ok hd hc31 v1 v2 v3 v4 v5 v6 v7 v8 x20 1 _ m31 T32
theorem zD175_31_ok {μ0 : xe_Mem} {δ : xe_Dy} {d : Nat} (hd : 1 ≤ d) {c6 : Int32 → Int32 → Int32 → Int32 → Int32 → xe_Mem → zO} (hc6 : ∀ (v1 : Int32) (v2 : Int32) (v3 : Int32) (v4 : Int32) (v5 : Int32) (l6 : Option Value) (l7 : Option Value) (l8 : Option Value) (l9 : Option Value) (l10 : Option Value) (μ : xe_Mem), zT zPr μ0 μ → zK zPr μ0 δ d 175 6 [some (.ref 203), some (.int v1), some (.int v2), some (.int v3), some (.int v4), some (.int v5), l6, l7, l8, l9, l10] [] μ (c6 v1 v2 v3 v4 v5 μ)) : ∀ n : Nat, ∀ (v1 : Int32) (v2 : Int32) (v3 : Int32) (v4 : Int32) (v5 : Int32) (v6 : Int32) (v7 : Int32) (v8 : Int32) (l9 : Option Value) (l10 : Option Value) (μ : xe_Mem), zT zPr μ0 μ → zK zPr μ0 δ d 175 31 [some (.ref 203), some (.int v1), some (.int v2), some (.int v3), some (.int v4), some (.int v5), some (.int v6), some (.int v7), some (.int v8), l9, l10] [] μ (zD175_31  c6 n v1 v2 v3 v4 v5 v6 v7 v8 μ) := by
  intro n
  induction n with
  | zero => exact fun _ _ _ _ _ _ _ _ _ _ _ _  => fun o μ' h => by cases h
  | succ n ih => exact zD175_31_bok hd  hc6 ih
theorem zD175_6_bok {μ0 : xe_Mem} {δ : xe_Dy} {d : Nat} (hd : 1 ≤ d)  {c6 : Int32 → Int32 → Int32 → Int32 → Int32 → xe_Mem → zO} (hc6 : ∀ (v1 : Int32) (v2 : Int32) (v3 : Int32) (v4 : Int32) (v5 : Int32) (l6 : Option Value) (l7 : Option Value) (l8 : Option Value) (l9 : Option Value) (l10 : Option Value) (μ : xe_Mem), zT zPr μ0 μ → zK zPr μ0 δ d 175 6 [some (.ref 203), some (.int v1), some (.int v2), some (.int v3), some (.int v4), some (.int v5), l6, l7, l8, l9, l10] [] μ (c6 v1 v2 v3 v4 v5 μ)) : ∀ (v1 : Int32) (v2 : Int32) (v3 : Int32) (v4 : Int32) (v5 : Int32) (l6 : Option Value) (l7 : Option Value) (l8 : Option Value) (l9 : Option Value) (l10 : Option Value) (μ : xe_Mem), zT zPr μ0 μ → zK zPr μ0 δ d 175 6 [some (.ref 203), some (.int v1), some (.int v2), some (.int v3), some (.int v4), some (.int v5), l6, l7, l8, l9, l10] [] μ (zD175_6_b  c6 v1 v2 v3 v4 v5 μ) := by
  intro v1 v2 v3 v4 v5 l6 l7 l8 l9 l10 μ hT
  unfold zD175_6_b
  refine zK_op rfl rfl ?_
  refine zK_op rfl rfl ?_
  refine zK_gI rfl rfl hT ?_
  refine zK_icge rfl (fun _ => ?_) (fun _ => ?_)
  · refine zK_op rfl rfl ?_
    exact zK_ret1 rfl hT
  refine zK_op rfl rfl ?_
  refine zK_gRl (b := 218) rfl rfl rfl hT ?_
  refine zK_op rfl rfl ?_
  refine zK_x (fun j1 h2 h3 h4 => ?_)
  refine zK_aI rfl rfl hT h2 h3 h4 ?_
  refine zK_op rfl rfl ?_
  refine zK_iceq rfl (fun _ => ?_) (fun _ => ?_)
  · refine zK_op rfl rfl ?_
    refine zK_op rfl rfl ?_
    refine zK_gRl (b := 221) rfl rfl rfl hT ?_
    refine zK_op rfl rfl ?_
    refine zK_x (fun j5 h6 h7 h8 => ?_)
    refine zK_aI rfl rfl hT h6 h7 h8 ?_
    refine zK_dv (fun h9 => ?_)
    refine zK_i2d rfl h9 ?_
    refine zK_vI (fun x10 => ?_)
    refine zK_op rfl rfl ?_
    refine zK_op rfl rfl ?_
    refine zK_gRl (b := 228) rfl rfl rfl hT ?_
    refine zK_op rfl rfl ?_
    refine zK_x (fun j11 h12 h13 h14 => ?_)
    refine zK_aI rfl rfl hT h12 h13 h14 ?_
    refine zK_vI (fun x15 => ?_)
    refine zK_op rfl rfl ?_
    refine zK_op rfl rfl ?_
    refine zK_op rfl rfl ?_
    exact zD175_31_ok hd hc6 zfu v1 v2 v3 v4 v5 x10 x15 0 _ _ μ hT
  refine zK_op rfl rfl ?_
  exact zD175_84_ok hd hc6 v1 v2 v3 v4 v5 _ _ _ _ _ μ hT
theorem zD175_6_ok {μ0 : xe_Mem} {δ : xe_Dy} {d : Nat} (hd : 1 ≤ d)  : ∀ n : Nat, ∀ (v1 : Int32) (v2 : Int32) (v3 : Int32) (v4 : Int32) (v5 : Int32) (l6 : Option Value) (l7 : Option Value) (l8 : Option Value) (l9 : Option Value) (l10 : Option Value) (μ : xe_Mem), zT zPr μ0 μ → zK zPr μ0 δ d 175 6 [some (.ref 203), some (.int v1), some (.int v2), some (.int v3), some (.int v4), some (.int v5), l6, l7, l8, l9, l10] [] μ (zD175_6  n v1 v2 v3 v4 v5 μ) := by
  intro n
  induction n with
  | zero => exact fun _ _ _ _ _ _ _ _ _ _ _ _  => fun o μ' h => by cases h
  | succ n ih => exact zD175_6_bok hd   ih
theorem zD175_ok {μ0 : xe_Mem} {δ : xe_Dy} {d : Nat} (hd : 1 ≤ d) (a1 : Int32) (a2 : Int32) (μ : xe_Mem) (hT : zT zPr μ0 μ) : zK zPr μ0 δ d 175 0 (xe_init [.ref 203, .int a1, .int a2] (xM_L 175)) [] μ (zD175 a1 a2 μ) := by
  unfold zD175
  show zK zPr μ0 δ d 175 0 [some (.ref 203), some (.int a1), some (.int a2), none, none, none, none, none, none, none, none] [] μ _
  refine zK_op rfl rfl ?_
  refine zK_op rfl rfl ?_
  refine zK_op rfl rfl ?_
  refine zK_op rfl rfl ?_
  refine zK_op rfl rfl ?_
  refine zK_op rfl rfl ?_
  exact zD175_6_ok hd zfu a1 a2 ((-1)) 0 0 _ _ _ _ _ μ hT
/-! 171 LogicalTimesModel.examine(I)V -/
def zD171_252 (c238 : Int32 → Int32 → Int32 → xe_Mem → zO) (v1 : Int32) (v3 : Int32) (v4 : Int32) (μ : xe_Mem) : zO := c238 v1 v3 (v4 + (-1)) μ
def zD171_238_b (c238 : Int32 → Int32 → Int32 → xe_Mem → zO) (v1 : Int32) (v3 : Int32) (v4 : Int32) (μ : xe_Mem) : zO := if v4 < 0 then some (.inl none, μ) else zq_cI (zD176 v1 v4 μ) fun x20 m18 => if 0 ≤ x20 then zD171_252 c238 v1 v3 v4 m18 else zq_x v1 4 fun j21 => zq_m (xe_setI m18 215 j21 (1001 + v4)) fun m25 => zD171_252 c238 v1 v3 v4 m25
def zD171_238   : Nat → Int32 → Int32 → Int32 → xe_Mem → zO
  | 0 => fun _ _ _ _  => none
  | n + 1 => zD171_238_b   (zD171_238   n)
def zD171_232 (c211 : Int32 → Int32 → Int32 → xe_Mem → zO) (v1 : Int32) (v3 : Int32) (v4 : Int32) (μ : xe_Mem) : zO := c211 v1 v3 (v4 + (1)) μ
def zD171_211_b (c211 : Int32 → Int32 → Int32 → xe_Mem → zO) (v1 : Int32) (v3 : Int32) (v4 : Int32) (μ : xe_Mem) : zO := if (xe_I μ 203 43) ≤ v4 then zq_vI (v3 - 1) fun x17 => zD171_238 zfu v1 v3 x17 μ else zq_x v4 480 fun j27 => if (xe_I μ 236 j27) = v1 then zq_x v4 480 fun j31 => zq_cI (zD175 v1 (xe_I μ 237 j31) μ) fun x37 m35 => zq_x v4 480 fun j38 => zq_m (xe_setI m35 238 j38 x37) fun m42 => zD171_232 c211 v1 v3 v4 m42 else zD171_232 c211 v1 v3 v4 μ
def zD171_211   : Nat → Int32 → Int32 → Int32 → xe_Mem → zO
  | 0 => fun _ _ _ _  => none
  | n + 1 => zD171_211_b   (zD171_211   n)
def zD171_205 (v1 : Int32) (v2 : Int32) (v3 : Int32) (s1 : Int32) (s2 : Int32) (μ : xe_Mem) : zO := zq_x s1 4 fun j11 => zq_m (xe_setI μ 215 j11 s2) fun m15 => if v2 < 0 then zD171_211 zfu v1 v3 0 m15 else some (.inl none, m15)
def zD171_193 (c180 : Int32 → Int32 → Int32 → Int32 → xe_Mem → zO) (v1 : Int32) (v2 : Int32) (v3 : Int32) (v4 : Int32) (μ : xe_Mem) : zO := c180 v1 v2 v3 (v4 + (1)) μ
def zD171_180_b (c180 : Int32 → Int32 → Int32 → Int32 → xe_Mem → zO) (v1 : Int32) (v2 : Int32) (v3 : Int32) (v4 : Int32) (μ : xe_Mem) : zO := if (xe_I μ 203 22) ≤ v4 then if 0 ≤ v2 then zD171_205 v1 v2 v3 v1 (v2 + 1) μ else zD171_205 v1 v2 v3 v1 0 μ else zq_x v4 24 fun j44 => if (xe_I μ 218 j44) = v1 then zq_cV (zD174 v4 μ) fun m48 => zD171_193 c180 v1 v2 v3 v4 m48 else zD171_193 c180 v1 v2 v3 v4 μ
def zD171_180   : Nat → Int32 → Int32 → Int32 → Int32 → xe_Mem → zO
  | 0 => fun _ _ _ _ _  => none
  | n + 1 => zD171_180_b   (zD171_180   n)
def zD171_176 (c44 : Int32 → Int32 → Int32 → Int32 → xe_Mem → zO) (v1 : Int32) (v2 : Int32) (v3 : Int32) (v4 : Int32) (μ : xe_Mem) : zO := c44 v1 v2 v3 (v4 + (1)) μ
def zD171_174 (c127 : Int32 → Int32 → Int32 → Int32 → Int32 → xe_Mem → zO) (v1 : Int32) (v2 : Int32) (v3 : Int32) (v4 : Int32) (v5 : Int32) (μ : xe_Mem) : zO := c127 v1 v2 v3 v4 (v5 + (1)) μ
def zD171_127_b (c44 : Int32 → Int32 → Int32 → Int32 → xe_Mem → zO) (c127 : Int32 → Int32 → Int32 → Int32 → Int32 → xe_Mem → zO) (v1 : Int32) (v2 : Int32) (v3 : Int32) (v4 : Int32) (v5 : Int32) (μ : xe_Mem) : zO := if 4 ≤ v5 then zD171_176 c44 v1 v2 v3 v4 μ else zq_x v1 4 fun j50 => if (xe_I μ 214 j50) ≤ v4 then zD171_176 c44 v1 v2 v3 v4 μ else zq_cI (zD172 v1 v5 v4 μ) fun x56 m54 => if 0 ≤ x56 then zq_x x56 24 fun j57 => zq_x x56 24 fun j61 => zq_m (xe_setI m54 259 j61 ((xe_I m54 259 j57) - 1)) fun m65 => zq_x x56 24 fun j67 => if (xe_I m65 259 j67) = 0 then zq_x x56 24 fun j71 => zq_d (xe_I m65 221 j71) <| zq_x ((120 * x56) + (v4 / (xe_I m65 221 j71))) 2880 fun j76 => zq_m (xe_setI m65 230 j76 (v4 + 1)) fun m80 => zD171_174 c127 v1 v2 v3 v4 v5 m80 else zD171_174 c127 v1 v2 v3 v4 v5 m65 else zD171_174 c127 v1 v2 v3 v4 v5 m54
def zD171_127  (c44 : Int32 → Int32 → Int32 → Int32 → xe_Mem → zO) : Nat → Int32 → Int32 → Int32 → Int32 → Int32 → xe_Mem → zO
  | 0 => fun _ _ _ _ _ _  => none
  | n + 1 => zD171_127_b  c44 (zD171_127  c44 n)
def zD171_123 (c52 : Int32 → Int32 → Int32 → Int32 → Int32 → xe_Mem → zO) (v1 : Int32) (v2 : Int32) (v3 : Int32) (v4 : Int32) (v5 : Int32) (μ : xe_Mem) : zO := c52 v1 v2 v3 v4 (v5 + (1)) μ
def zD171_99 (c52 : Int32 → Int32 → Int32 → Int32 → Int32 → xe_Mem → zO) (v1 : Int32) (v2 : Int32) (v3 : Int32) (v4 : Int32) (v5 : Int32) (v6 : Int32) (μ : xe_Mem) : zO := zq_x v1 4 fun j101 => if v4 = (xe_I μ 214 j101) then zD171_123 c52 v1 v2 v3 v4 v5 μ else zq_x v5 24 fun j105 => zq_x v5 24 fun j109 => zq_m (xe_setI μ 259 j109 (xe_I μ 222 j105)) fun m113 => zq_x ((120 * v5) + v6) 2880 fun j115 => zq_m (xe_setI m113 230 j115 v4) fun m119 => zD171_123 c52 v1 v2 v3 v4 v5 m119
def zD171_98 (c52 : Int32 → Int32 → Int32 → Int32 → Int32 → xe_Mem → zO) (v1 : Int32) (v3 : Int32) (v4 : Int32) (v5 : Int32) (v6 : Int32) (s0 : Int32) (μ : xe_Mem) : zO := zD171_99 c52 v1 s0 v3 v4 v5 v6 μ
def zD171_52_b (c44 : Int32 → Int32 → Int32 → Int32 → xe_Mem → zO) (c52 : Int32 → Int32 → Int32 → Int32 → Int32 → xe_Mem → zO) (v1 : Int32) (v2 : Int32) (v3 : Int32) (v4 : Int32) (v5 : Int32) (μ : xe_Mem) : zO := if (xe_I μ 203 22) ≤ v5 then zD171_127 c44 zfu v1 v2 v3 v4 0 μ else zq_x v5 24 fun j82 => if (xe_I μ 218 j82) = v1 then zq_x v5 24 fun j86 => zq_d (xe_I μ 221 j86) <| if (v4 - v4 / (xe_I μ 221 j86) * (xe_I μ 221 j86)) = 0 then zq_x v5 24 fun j91 => zq_d (xe_I μ 221 j91) <| zq_vI (v4 / (xe_I μ 221 j91)) fun x96 => zq_x v5 24 fun j97 => if (xe_I μ 259 j97) ≤ 0 then zD171_99 c52 v1 v2 v3 v4 v5 x96 μ else zq_x (((120 * v5) + x96) - 1) 2880 fun j121 => zq_m (xe_setI μ 230 j121 ((-1))) fun m125 => if 0 ≤ v2 then zD171_98 c52 v1 v3 v4 v5 x96 v2 m125 else zD171_98 c52 v1 v3 v4 v5 x96 v5 m125 else zD171_123 c52 v1 v2 v3 v4 v5 μ else zD171_123 c52 v1 v2 v3 v4 v5 μ
def zD171_52  (c44 : Int32 → Int32 → Int32 → Int32 → xe_Mem → zO) : Nat → Int32 → Int32 → Int32 → Int32 → Int32 → xe_Mem → zO
  | 0 => fun _ _ _ _ _ _  => none
  | n + 1 => zD171_52_b  c44 (zD171_52  c44 n)
def zD171_44_b (c44 : Int32 → Int32 → Int32 → Int32 → xe_Mem → zO) (v1 : Int32) (v2 : Int32) (v3 : Int32) (v4 : Int32) (μ : xe_Mem) : zO := zq_x v1 4 fun j7 => if (xe_I μ 214 j7) < v4 then zD171_180 zfu v1 v2 v3 0 μ else zD171_52 c44 zfu v1 v2 v3 v4 0 μ
def zD171_44   : Nat → Int32 → Int32 → Int32 → Int32 → xe_Mem → zO
  | 0 => fun _ _ _ _ _  => none
  | n + 1 => zD171_44_b   (zD171_44   n)
def zD171_33 (c6 : Int32 → Int32 → Int32 → Int32 → xe_Mem → zO) (v1 : Int32) (v2 : Int32) (v4 : Int32) (s0 : Int32) (s1 : Int32) (μ : xe_Mem) : zO := zq_vI (s0 + s1) fun x145 => c6 v1 v2 x145 (v4 + (1)) μ
def zD171_6_b (c6 : Int32 → Int32 → Int32 → Int32 → xe_Mem → zO) (v1 : Int32) (v2 : Int32) (v3 : Int32) (v4 : Int32) (μ : xe_Mem) : zO := if (xe_I μ 203 22) ≤ v4 then zq_x v1 4 fun j1 => zq_m (xe_setI μ 216 j1 v3) fun m5 => zD171_44 zfu v1 v2 v3 0 m5 else zq_x v4 24 fun j127 => zq_m (xe_setI μ 259 j127 0) fun m131 => zq_x v4 24 fun j133 => if (xe_I m131 218 j133) = v1 then zq_x v4 24 fun j137 => zq_x v4 24 fun j141 => zD171_33 c6 v1 v2 v4 v3 ((xe_I m131 220 j137) * (xe_I m131 228 j141)) m131 else zD171_33 c6 v1 v2 v4 v3 0 m131
def zD171_6   : Nat → Int32 → Int32 → Int32 → Int32 → xe_Mem → zO
  | 0 => fun _ _ _ _ _  => none
  | n + 1 => zD171_6_b   (zD171_6   n)
def zD171  (a1 : Int32) (μ : xe_Mem) : zO := zD171_6 zfu a1 ((-1)) 0 0 μ
theorem zD171_252_ok {μ0 : xe_Mem} {δ : xe_Dy} {d : Nat} (hd : 2 ≤ d) {c238 : Int32 → Int32 → Int32 → xe_Mem → zO} (hc238 : ∀ (v1 : Int32) (v3 : Int32) (v4 : Int32) (l2 : Option Value) (l5 : Option Value) (l6 : Option Value) (μ : xe_Mem), zT zPr μ0 μ → zK zPr μ0 δ d 171 238 [some (.ref 203), some (.int v1), l2, some (.int v3), some (.int v4), l5, l6] [] μ (c238 v1 v3 v4 μ)) : ∀ (v1 : Int32) (v3 : Int32) (v4 : Int32) (l2 : Option Value) (l5 : Option Value) (l6 : Option Value) (μ : xe_Mem), zT zPr μ0 μ → zK zPr μ0 δ d 171 252 [some (.ref 203), some (.int v1), l2, some (.int v3), some (.int v4), l5, l6] [] μ (zD171_252  c238 v1 v3 v4 μ) := by
  intro v1 v3 v4 l2 l5 l6 μ hT
  unfold zD171_252
  refine zK_op rfl rfl ?_
  refine zK_op rfl rfl ?_
  exact hc238 v1 v3 (v4 + (-1)) _ _ _ μ hT
theorem zD171_238_bok {μ0 : xe_Mem} {δ : xe_Dy} {d : Nat} (hd : 2 ≤ d)  {c238 : Int32 → Int32 → Int32 → xe_Mem → zO} (hc238 : ∀ (v1 : Int32) (v3 : Int32) (v4 : Int32) (l2 : Option Value) (l5 : Option Value) (l6 : Option Value) (μ : xe_Mem), zT zPr μ0 μ → zK zPr μ0 δ d 171 238 [some (.ref 203), some (.int v1), l2, some (.int v3), some (.int v4), l5, l6] [] μ (c238 v1 v3 v4 μ)) : ∀ (v1 : Int32) (v3 : Int32) (v4 : Int32) (l2 : Option Value) (l5 : Option Value) (l6 : Option Value) (μ : xe_Mem), zT zPr μ0 μ → zK zPr μ0 δ d 171 238 [some (.ref 203), some (.int v1), l2, some (.int v3), some (.int v4), l5, l6] [] μ (zD171_238_b  c238 v1 v3 v4 μ) := by
  intro v1 v3 v4 l2 l5 l6 μ hT
  unfold zD171_238_b
  refine zK_op rfl rfl ?_
  refine zK_iflt rfl (fun _ => ?_) (fun _ => ?_)
  · exact zK_ret0 rfl hT
  refine zK_op rfl rfl ?_
  refine zK_op rfl rfl ?_
  refine zK_op rfl rfl ?_
  refine zK_cI rfl (as := [.ref 203, .int v1, .int v4]) (rest := []) rfl rfl (xe_rcvO (zT_sh hT rfl)) (Nat.le_of_ble_eq_true rfl) (Nat.le_of_ble_eq_true rfl) (by decide) (fun _ => rfl) (by omega) (zD176_ok (by omega) v1 v4 μ hT) (fun x20 m18 T19 => ?_)
  refine zK_ifge rfl (fun _ => ?_) (fun _ => ?_)
  · exact zD171_252_ok hd hc238 v1 v3 v4 _ _ _ m18 T19
  refine zK_op rfl rfl ?_
  refine zK_gRl (b := 215) rfl rfl rfl T19 ?_
  refine zK_op rfl rfl ?_
  refine zK_op rfl rfl ?_
  refine zK_op rfl rfl ?_
  refine zK_op rfl rfl ?_
  refine zK_x (fun j21 h22 h23 h24 => ?_)
  refine zK_sI (a := 215) (g := (fun x => x)) rfl rfl T19 h22 h23 h24 rfl (fun m25 T26 => ?_)
  exact zD171_252_ok hd hc238 v1 v3 v4 _ _ _ m25 T26
theorem zD171_238_ok {μ0 : xe_Mem} {δ : xe_Dy} {d : Nat} (hd : 2 ≤ d)  : ∀ n : Nat, ∀ (v1 : Int32) (v3 : Int32) (v4 : Int32) (l2 : Option Value) (l5 : Option Value) (l6 : Option Value) (μ : xe_Mem), zT zPr μ0 μ → zK zPr μ0 δ d 171 238 [some (.ref 203), some (.int v1), l2, some (.int v3), some (.int v4), l5, l6] [] μ (zD171_238  n v1 v3 v4 μ) := by
  intro n
  induction n with
  | zero => exact fun _ _ _ _ _ _ _ _  => fun o μ' h => by cases h
  | succ n ih => exact zD171_238_bok hd   ih
theorem zD171_232_ok {μ0 : xe_Mem} {δ : xe_Dy} {d : Nat} (hd : 2 ≤ d) {c211 : Int32 → Int32 → Int32 → xe_Mem → zO} (hc211 : ∀ (v1 : Int32) (v3 : Int32) (v4 : Int32) (l2 : Option Value) (l5 : Option Value) (l6 : Option Value) (μ : xe_Mem), zT zPr μ0 μ → zK zPr μ0 δ d 171 211 [some (.ref 203), some (.int v1), l2, some (.int v3), some (.int v4), l5, l6] [] μ (c211 v1 v3 v4 μ)) : ∀ (v1 : Int32) (v3 : Int32) (v4 : Int32) (l2 : Option Value) (l5 : Option Value) (l6 : Option Value) (μ : xe_Mem), zT zPr μ0 μ → zK zPr μ0 δ d 171 232 [some (.ref 203), some (.int v1), l2, some (.int v3), some (.int v4), l5, l6] [] μ (zD171_232  c211 v1 v3 v4 μ) := by
  intro v1 v3 v4 l2 l5 l6 μ hT
  unfold zD171_232
  refine zK_op rfl rfl ?_
  refine zK_op rfl rfl ?_
  exact hc211 v1 v3 (v4 + (1)) _ _ _ μ hT
theorem zD171_211_bok {μ0 : xe_Mem} {δ : xe_Dy} {d : Nat} (hd : 2 ≤ d)  {c211 : Int32 → Int32 → Int32 → xe_Mem → zO} (hc211 : ∀ (v1 : Int32) (v3 : Int32) (v4 : Int32) (l2 : Option Value) (l5 : Option Value) (l6 : Option Value) (μ : xe_Mem), zT zPr μ0 μ → zK zPr μ0 δ d 171 211 [some (.ref 203), some (.int v1), l2, some (.int v3), some (.int v4), l5, l6] [] μ (c211 v1 v3 v4 μ)) : ∀ (v1 : Int32) (v3 : Int32) (v4 : Int32) (l2 : Option Value) (l5 : Option Value) (l6 : Option Value) (μ : xe_Mem), zT zPr μ0 μ → zK zPr μ0 δ d 171 211 [some (.ref 203), some (.int v1), l2, some (.int v3), some (.int v4), l5, l6] [] μ (zD171_211_b  c211 v1 v3 v4 μ) := by
  intro v1 v3 v4 l2 l5 l6 μ hT
  unfold zD171_211_b
  refine zK_op rfl rfl ?_
  refine zK_op rfl rfl ?_
  refine zK_gI rfl rfl hT ?_
  refine zK_icge rfl (fun _ => ?_) (fun _ => ?_)
  · refine zK_op rfl rfl ?_
    refine zK_op rfl rfl ?_
    refine zK_op rfl rfl ?_
    refine zK_vI (fun x17 => ?_)
    refine zK_op rfl rfl ?_
    exact zD171_238_ok hd zfu v1 v3 x17 _ _ _ μ hT
  refine zK_op rfl rfl ?_
  refine zK_gRl (b := 236) rfl rfl rfl hT ?_
  refine zK_op rfl rfl ?_
  refine zK_x (fun j27 h28 h29 h30 => ?_)
  refine zK_aI rfl rfl hT h28 h29 h30 ?_
  refine zK_op rfl rfl ?_
  refine zK_icne rfl (fun _ => ?_) (fun _ => ?_)
  · refine zK_op rfl rfl ?_
    refine zK_gRl (b := 238) rfl rfl rfl hT ?_
    refine zK_op rfl rfl ?_
    refine zK_op rfl rfl ?_
    refine zK_op rfl rfl ?_
    refine zK_op rfl rfl ?_
    refine zK_gRl (b := 237) rfl rfl rfl hT ?_
    refine zK_op rfl rfl ?_
    refine zK_x (fun j31 h32 h33 h34 => ?_)
    refine zK_aI rfl rfl hT h32 h33 h34 ?_
    refine zK_cI rfl (as := [.ref 203, .int v1, .int (xe_I μ 237 j31)]) (rest := [.int v4, .ref 238]) rfl rfl (xe_rcvO (zT_sh hT rfl)) (Nat.le_of_ble_eq_true rfl) (Nat.le_of_ble_eq_true rfl) (by decide) (fun _ => rfl) (by omega) (zD175_ok (by omega) v1 (xe_I μ 237 j31) μ hT) (fun x37 m35 T36 => ?_)
    refine zK_x (fun j38 h39 h40 h41 => ?_)
    refine zK_sI (a := 238) (g := (fun x => x)) rfl rfl T36 h39 h40 h41 rfl (fun m42 T43 => ?_)
    exact zD171_232_ok hd hc211 v1 v3 v4 _ _ _ m42 T43
  exact zD171_232_ok hd hc211 v1 v3 v4 _ _ _ μ hT
theorem zD171_211_ok {μ0 : xe_Mem} {δ : xe_Dy} {d : Nat} (hd : 2 ≤ d)  : ∀ n : Nat, ∀ (v1 : Int32) (v3 : Int32) (v4 : Int32) (l2 : Option Value) (l5 : Option Value) (l6 : Option Value) (μ : xe_Mem), zT zPr μ0 μ → zK zPr μ0 δ d 171 211 [some (.ref 203), some (.int v1), l2, some (.int v3), some (.int v4), l5, l6] [] μ (zD171_211  n v1 v3 v4 μ) := by
  intro n
  induction n with
  | zero => exact fun _ _ _ _ _ _ _ _  => fun o μ' h => by cases h
  | succ n ih => exact zD171_211_bok hd   ih
theorem zD171_205_ok {μ0 : xe_Mem} {δ : xe_Dy} {d : Nat} (hd : 2 ≤ d)  : ∀ (v1 : Int32) (v2 : Int32) (v3 : Int32) (s1 : Int32) (s2 : Int32) (l4 : Option Value) (l5 : Option Value) (l6 : Option Value) (μ : xe_Mem), zT zPr μ0 μ → zK zPr μ0 δ d 171 205 [some (.ref 203), some (.int v1), some (.int v2), some (.int v3), l4, l5, l6] [.int s2, .int s1, .ref 215] μ (zD171_205  v1 v2 v3 s1 s2 μ) := by
  intro v1 v2 v3 s1 s2 l4 l5 l6 μ hT
  unfold zD171_205
  refine zK_x (fun j11 h12 h13 h14 => ?_)
  refine zK_sI (a := 215) (g := (fun x => x)) rfl rfl hT h12 h13 h14 rfl (fun m15 T16 => ?_)
  refine zK_op rfl rfl ?_
  refine zK_iflt rfl (fun _ => ?_) (fun _ => ?_)
  · refine zK_op rfl rfl ?_
    refine zK_op rfl rfl ?_
    exact zD171_211_ok hd zfu v1 v3 0 _ _ _ m15 T16
  exact zK_ret0 rfl T16
theorem zD171_193_ok {μ0 : xe_Mem} {δ : xe_Dy} {d : Nat} (hd : 2 ≤ d) {c180 : Int32 → Int32 → Int32 → Int32 → xe_Mem → zO} (hc180 : ∀ (v1 : Int32) (v2 : Int32) (v3 : Int32) (v4 : Int32) (l5 : Option Value) (l6 : Option Value) (μ : xe_Mem), zT zPr μ0 μ → zK zPr μ0 δ d 171 180 [some (.ref 203), some (.int v1), some (.int v2), some (.int v3), some (.int v4), l5, l6] [] μ (c180 v1 v2 v3 v4 μ)) : ∀ (v1 : Int32) (v2 : Int32) (v3 : Int32) (v4 : Int32) (l5 : Option Value) (l6 : Option Value) (μ : xe_Mem), zT zPr μ0 μ → zK zPr μ0 δ d 171 193 [some (.ref 203), some (.int v1), some (.int v2), some (.int v3), some (.int v4), l5, l6] [] μ (zD171_193  c180 v1 v2 v3 v4 μ) := by
  intro v1 v2 v3 v4 l5 l6 μ hT
  unfold zD171_193
  refine zK_op rfl rfl ?_
  refine zK_op rfl rfl ?_
  exact hc180 v1 v2 v3 (v4 + (1)) _ _ μ hT
theorem zD171_180_bok {μ0 : xe_Mem} {δ : xe_Dy} {d : Nat} (hd : 2 ≤ d)  {c180 : Int32 → Int32 → Int32 → Int32 → xe_Mem → zO} (hc180 : ∀ (v1 : Int32) (v2 : Int32) (v3 : Int32) (v4 : Int32) (l5 : Option Value) (l6 : Option Value) (μ : xe_Mem), zT zPr μ0 μ → zK zPr μ0 δ d 171 180 [some (.ref 203), some (.int v1), some (.int v2), some (.int v3), some (.int v4), l5, l6] [] μ (c180 v1 v2 v3 v4 μ)) : ∀ (v1 : Int32) (v2 : Int32) (v3 : Int32) (v4 : Int32) (l5 : Option Value) (l6 : Option Value) (μ : xe_Mem), zT zPr μ0 μ → zK zPr μ0 δ d 171 180 [some (.ref 203), some (.int v1), some (.int v2), some (.int v3), some (.int v4), l5, l6] [] μ (zD171_180_b  c180 v1 v2 v3 v4 μ) := by
  intro v1 v2 v3 v4 l5 l6 μ hT
  unfold zD171_180_b
  refine zK_op rfl rfl ?_
  refine zK_op rfl rfl ?_
  refine zK_gI rfl rfl hT ?_
  refine zK_icge rfl (fun _ => ?_) (fun _ => ?_)
  · refine zK_op rfl rfl ?_
    refine zK_gRl (b := 215) rfl rfl rfl hT ?_
    refine zK_op rfl rfl ?_
    refine zK_op rfl rfl ?_
    refine zK_ifge rfl (fun _ => ?_) (fun _ => ?_)
    · refine zK_op rfl rfl ?_
      refine zK_op rfl rfl ?_
      refine zK_op rfl rfl ?_
      exact zD171_205_ok hd v1 v2 v3 v1 (v2 + 1) _ _ _ μ hT
    refine zK_op rfl rfl ?_
    refine zK_op rfl rfl ?_
    exact zD171_205_ok hd v1 v2 v3 v1 0 _ _ _ μ hT
  refine zK_op rfl rfl ?_
  refine zK_gRl (b := 218) rfl rfl rfl hT ?_
  refine zK_op rfl rfl ?_
  refine zK_x (fun j44 h45 h46 h47 => ?_)
  refine zK_aI rfl rfl hT h45 h46 h47 ?_
  refine zK_op rfl rfl ?_
  refine zK_icne rfl (fun _ => ?_) (fun _ => ?_)
  · refine zK_op rfl rfl ?_
    refine zK_op rfl rfl ?_
    refine zK_cV rfl (as := [.ref 203, .int v4]) (rest := []) rfl rfl (xe_rcvO (zT_sh hT rfl)) (Nat.le_of_ble_eq_true rfl) (Nat.le_of_ble_eq_true rfl) (by decide) (fun _ => rfl) (by omega) (zD174_ok (by omega) v4 μ hT) (fun m48 T49 => ?_)
    exact zD171_193_ok hd hc180 v1 v2 v3 v4 _ _ m48 T49
  exact zD171_193_ok hd hc180 v1 v2 v3 v4 _ _ μ hT
theorem zD171_180_ok {μ0 : xe_Mem} {δ : xe_Dy} {d : Nat} (hd : 2 ≤ d)  : ∀ n : Nat, ∀ (v1 : Int32) (v2 : Int32) (v3 : Int32) (v4 : Int32) (l5 : Option Value) (l6 : Option Value) (μ : xe_Mem), zT zPr μ0 μ → zK zPr μ0 δ d 171 180 [some (.ref 203), some (.int v1), some (.int v2), some (.int v3), some (.int v4), l5, l6] [] μ (zD171_180  n v1 v2 v3 v4 μ) := by
  intro n
  induction n with
  | zero => exact fun _ _ _ _ _ _ _ _  => fun o μ' h => by cases h
  | succ n ih => exact zD171_180_bok hd   ih
theorem zD171_176_ok {μ0 : xe_Mem} {δ : xe_Dy} {d : Nat} (hd : 2 ≤ d) {c44 : Int32 → Int32 → Int32 → Int32 → xe_Mem → zO} (hc44 : ∀ (v1 : Int32) (v2 : Int32) (v3 : Int32) (v4 : Int32) (l5 : Option Value) (l6 : Option Value) (μ : xe_Mem), zT zPr μ0 μ → zK zPr μ0 δ d 171 44 [some (.ref 203), some (.int v1), some (.int v2), some (.int v3), some (.int v4), l5, l6] [] μ (c44 v1 v2 v3 v4 μ)) : ∀ (v1 : Int32) (v2 : Int32) (v3 : Int32) (v4 : Int32) (l5 : Option Value) (l6 : Option Value) (μ : xe_Mem), zT zPr μ0 μ → zK zPr μ0 δ d 171 176 [some (.ref 203), some (.int v1), some (.int v2), some (.int v3), some (.int v4), l5, l6] [] μ (zD171_176  c44 v1 v2 v3 v4 μ) := by
  intro v1 v2 v3 v4 l5 l6 μ hT
  unfold zD171_176
  refine zK_op rfl rfl ?_
  refine zK_op rfl rfl ?_
  exact hc44 v1 v2 v3 (v4 + (1)) _ _ μ hT
theorem zD171_174_ok {μ0 : xe_Mem} {δ : xe_Dy} {d : Nat} (hd : 2 ≤ d) {c127 : Int32 → Int32 → Int32 → Int32 → Int32 → xe_Mem → zO} (hc127 : ∀ (v1 : Int32) (v2 : Int32) (v3 : Int32) (v4 : Int32) (v5 : Int32) (l6 : Option Value) (μ : xe_Mem), zT zPr μ0 μ → zK zPr μ0 δ d 171 127 [some (.ref 203), some (.int v1), some (.int v2), some (.int v3), some (.int v4), some (.int v5), l6] [] μ (c127 v1 v2 v3 v4 v5 μ)) : ∀ (v1 : Int32) (v2 : Int32) (v3 : Int32) (v4 : Int32) (v5 : Int32) (l6 : Option Value) (μ : xe_Mem), zT zPr μ0 μ → zK zPr μ0 δ d 171 174 [some (.ref 203), some (.int v1), some (.int v2), some (.int v3), some (.int v4), some (.int v5), l6] [] μ (zD171_174  c127 v1 v2 v3 v4 v5 μ) := by
  intro v1 v2 v3 v4 v5 l6 μ hT
  unfold zD171_174
  refine zK_op rfl rfl ?_
  refine zK_op rfl rfl ?_
  exact hc127 v1 v2 v3 v4 (v5 + (1)) _ μ hT
theorem zD171_127_bok {μ0 : xe_Mem} {δ : xe_Dy} {d : Nat} (hd : 2 ≤ d) {c44 : Int32 → Int32 → Int32 → Int32 → xe_Mem → zO} (hc44 : ∀ (v1 : Int32) (v2 : Int32) (v3 : Int32) (v4 : Int32) (l5 : Option Value) (l6 : Option Value) (μ : xe_Mem), zT zPr μ0 μ → zK zPr μ0 δ d 171 44 [some (.ref 203), some (.int v1), some (.int v2), some (.int v3), some (.int v4), l5, l6] [] μ (c44 v1 v2 v3 v4 μ)) {c127 : Int32 → Int32 → Int32 → Int32 → Int32 → xe_Mem → zO} (hc127 : ∀ (v1 : Int32) (v2 : Int32) (v3 : Int32) (v4 : Int32) (v5 : Int32) (l6 : Option Value) (μ : xe_Mem), zT zPr μ0 μ → zK zPr μ0 δ d 171 127 [some (.ref 203), some (.int v1), some (.int v2), some (.int v3), some (.int v4), some (.int v5), l6] [] μ (c127 v1 v2 v3 v4 v5 μ)) : ∀ (v1 : Int32) (v2 : Int32) (v3 : Int32) (v4 : Int32) (v5 : Int32) (l6 : Option Value) (μ : xe_Mem), zT zPr μ0 μ → zK zPr μ0 δ d 171 127 [some (.ref 203), some (.int v1), some (.int v2), some (.int v3), some (.int v4), some (.int v5), l6] [] μ (zD171_127_b  c44 c127 v1 v2 v3 v4 v5 μ) := by
  intro v1 v2 v3 v4 v5 l6 μ hT
  unfold zD171_127_b
  refine zK_op rfl rfl ?_
  refine zK_op rfl rfl ?_
  refine zK_icge rfl (fun _ => ?_) (fun _ => ?_)
  · exact zD171_176_ok hd hc44 v1 v2 v3 v4 _ _ μ hT
  refine zK_op rfl rfl ?_
  refine zK_op rfl rfl ?_
  refine zK_gRl (b := 214) rfl rfl rfl hT ?_
  refine zK_op rfl rfl ?_
  refine zK_x (fun j50 h51 h52 h53 => ?_)
  refine zK_aI rfl rfl hT h51 h52 h53 ?_
  refine zK_icge rfl (fun _ => ?_) (fun _ => ?_)
  · exact zD171_176_ok hd hc44 v1 v2 v3 v4 _ _ μ hT
  refine zK_op rfl rfl ?_
  refine zK_op rfl rfl ?_
  refine zK_op rfl rfl ?_
  refine zK_op rfl rfl ?_
  refine zK_cI rfl (as := [.ref 203, .int v1, .int v5, .int v4]) (rest := []) rfl rfl (xe_rcvO (zT_sh hT rfl)) (Nat.le_of_ble_eq_true rfl) (Nat.le_of_ble_eq_true rfl) (by decide) (fun _ => rfl) (by omega) (zD172_ok (by omega) v1 v5 v4 μ hT) (fun x56 m54 T55 => ?_)
  refine zK_op rfl rfl ?_
  refine zK_op rfl rfl ?_
  refine zK_ifge rfl (fun _ => ?_) (fun _ => ?_)
  · refine zK_op rfl rfl ?_
    refine zK_gRl (b := 259) rfl rfl rfl T55 ?_
    refine zK_op rfl rfl ?_
    refine zK_op rfl rfl ?_
    refine zK_x (fun j57 h58 h59 h60 => ?_)
    refine zK_aI rfl rfl T55 h58 h59 h60 ?_
    refine zK_op rfl rfl ?_
    refine zK_op rfl rfl ?_
    refine zK_x (fun j61 h62 h63 h64 => ?_)
    refine zK_sI (a := 259) (g := (fun x => x)) rfl rfl T55 h62 h63 h64 rfl (fun m65 T66 => ?_)
    refine zK_op rfl rfl ?_
    refine zK_gRl (b := 259) rfl rfl rfl T66 ?_
    refine zK_op rfl rfl ?_
    refine zK_x (fun j67 h68 h69 h70 => ?_)
    refine zK_aI rfl rfl T66 h68 h69 h70 ?_
    refine zK_ifne rfl (fun _ => ?_) (fun _ => ?_)
    · refine zK_op rfl rfl ?_
      refine zK_gRl (b := 230) rfl rfl rfl T66 ?_
      refine zK_op rfl rfl ?_
      refine zK_op rfl rfl ?_
      refine zK_op rfl rfl ?_
      refine zK_op rfl rfl ?_
      refine zK_op rfl rfl ?_
      refine zK_gRl (b := 221) rfl rfl rfl T66 ?_
      refine zK_op rfl rfl ?_
      refine zK_x (fun j71 h72 h73 h74 => ?_)
      refine zK_aI rfl rfl T66 h72 h73 h74 ?_
      refine zK_dv (fun h75 => ?_)
      refine zK_i2d rfl h75 ?_
      refine zK_op rfl rfl ?_
      refine zK_op rfl rfl ?_
      refine zK_op rfl rfl ?_
      refine zK_op rfl rfl ?_
      refine zK_x (fun j76 h77 h78 h79 => ?_)
      refine zK_sI (a := 230) (g := (fun x => x)) rfl rfl T66 h77 h78 h79 rfl (fun m80 T81 => ?_)
      exact zD171_174_ok hd hc127 v1 v2 v3 v4 v5 _ m80 T81
    exact zD171_174_ok hd hc127 v1 v2 v3 v4 v5 _ m65 T66
  refine zK_op rfl rfl ?_
  exact zD171_174_ok hd hc127 v1 v2 v3 v4 v5 _ m54 T55
theorem zD171_127_ok {μ0 : xe_Mem} {δ : xe_Dy} {d : Nat} (hd : 2 ≤ d) {c44 : Int32 → Int32 → Int32 → Int32 → xe_Mem → zO} (hc44 : ∀ (v1 : Int32) (v2 : Int32) (v3 : Int32) (v4 : Int32) (l5 : Option Value) (l6 : Option Value) (μ : xe_Mem), zT zPr μ0 μ → zK zPr μ0 δ d 171 44 [some (.ref 203), some (.int v1), some (.int v2), some (.int v3), some (.int v4), l5, l6] [] μ (c44 v1 v2 v3 v4 μ)) : ∀ n : Nat, ∀ (v1 : Int32) (v2 : Int32) (v3 : Int32) (v4 : Int32) (v5 : Int32) (l6 : Option Value) (μ : xe_Mem), zT zPr μ0 μ → zK zPr μ0 δ d 171 127 [some (.ref 203), some (.int v1), some (.int v2), some (.int v3), some (.int v4), some (.int v5), l6] [] μ (zD171_127  c44 n v1 v2 v3 v4 v5 μ) := by
  intro n
  induction n with
  | zero => exact fun _ _ _ _ _ _ _ _  => fun o μ' h => by cases h
  | succ n ih => exact zD171_127_bok hd  hc44 ih
theorem zD171_123_ok {μ0 : xe_Mem} {δ : xe_Dy} {d : Nat} (hd : 2 ≤ d) {c52 : Int32 → Int32 → Int32 → Int32 → Int32 → xe_Mem → zO} (hc52 : ∀ (v1 : Int32) (v2 : Int32) (v3 : Int32) (v4 : Int32) (v5 : Int32) (l6 : Option Value) (μ : xe_Mem), zT zPr μ0 μ → zK zPr μ0 δ d 171 52 [some (.ref 203), some (.int v1), some (.int v2), some (.int v3), some (.int v4), some (.int v5), l6] [] μ (c52 v1 v2 v3 v4 v5 μ)) : ∀ (v1 : Int32) (v2 : Int32) (v3 : Int32) (v4 : Int32) (v5 : Int32) (l6 : Option Value) (μ : xe_Mem), zT zPr μ0 μ → zK zPr μ0 δ d 171 123 [some (.ref 203), some (.int v1), some (.int v2), some (.int v3), some (.int v4), some (.int v5), l6] [] μ (zD171_123  c52 v1 v2 v3 v4 v5 μ) := by
  intro v1 v2 v3 v4 v5 l6 μ hT
  unfold zD171_123
  refine zK_op rfl rfl ?_
  refine zK_op rfl rfl ?_
  exact hc52 v1 v2 v3 v4 (v5 + (1)) _ μ hT
theorem zD171_99_ok {μ0 : xe_Mem} {δ : xe_Dy} {d : Nat} (hd : 2 ≤ d) {c52 : Int32 → Int32 → Int32 → Int32 → Int32 → xe_Mem → zO} (hc52 : ∀ (v1 : Int32) (v2 : Int32) (v3 : Int32) (v4 : Int32) (v5 : Int32) (l6 : Option Value) (μ : xe_Mem), zT zPr μ0 μ → zK zPr μ0 δ d 171 52 [some (.ref 203), some (.int v1), some (.int v2), some (.int v3), some (.int v4), some (.int v5), l6] [] μ (c52 v1 v2 v3 v4 v5 μ)) : ∀ (v1 : Int32) (v2 : Int32) (v3 : Int32) (v4 : Int32) (v5 : Int32) (v6 : Int32) (μ : xe_Mem), zT zPr μ0 μ → zK zPr μ0 δ d 171 99 [some (.ref 203), some (.int v1), some (.int v2), some (.int v3), some (.int v4), some (.int v5), some (.int v6)] [] μ (zD171_99  c52 v1 v2 v3 v4 v5 v6 μ) := by
  intro v1 v2 v3 v4 v5 v6 μ hT
  unfold zD171_99
  refine zK_op rfl rfl ?_
  refine zK_op rfl rfl ?_
  refine zK_gRl (b := 214) rfl rfl rfl hT ?_
  refine zK_op rfl rfl ?_
  refine zK_x (fun j101 h102 h103 h104 => ?_)
  refine zK_aI rfl rfl hT h102 h103 h104 ?_
  refine zK_icne rfl (fun _ => ?_) (fun _ => ?_)
  · refine zK_op rfl rfl ?_
    exact zD171_123_ok hd hc52 v1 v2 v3 v4 v5 _ μ hT
  refine zK_op rfl rfl ?_
  refine zK_gRl (b := 259) rfl rfl rfl hT ?_
  refine zK_op rfl rfl ?_
  refine zK_op rfl rfl ?_
  refine zK_gRl (b := 222) rfl rfl rfl hT ?_
  refine zK_op rfl rfl ?_
  refine zK_x (fun j105 h106 h107 h108 => ?_)
  refine zK_aI rfl rfl hT h106 h107 h108 ?_
  refine zK_x (fun j109 h110 h111 h112 => ?_)
  refine zK_sI (a := 259) (g := (fun x => x)) rfl rfl hT h110 h111 h112 rfl (fun m113 T114 => ?_)
  refine zK_op rfl rfl ?_
  refine zK_gRl (b := 230) rfl rfl rfl T114 ?_
  refine zK_op rfl rfl ?_
  refine zK_op rfl rfl ?_
  refine zK_op rfl rfl ?_
  refine zK_op rfl rfl ?_
  refine zK_op rfl rfl ?_
  refine zK_op rfl rfl ?_
  refine zK_x (fun j115 h116 h117 h118 => ?_)
  refine zK_sI (a := 230) (g := (fun x => x)) rfl rfl T114 h116 h117 h118 rfl (fun m119 T120 => ?_)
  exact zD171_123_ok hd hc52 v1 v2 v3 v4 v5 _ m119 T120
theorem zD171_98_ok {μ0 : xe_Mem} {δ : xe_Dy} {d : Nat} (hd : 2 ≤ d) {c52 : Int32 → Int32 → Int32 → Int32 → Int32 → xe_Mem → zO} (hc52 : ∀ (v1 : Int32) (v2 : Int32) (v3 : Int32) (v4 : Int32) (v5 : Int32) (l6 : Option Value) (μ : xe_Mem), zT zPr μ0 μ → zK zPr μ0 δ d 171 52 [some (.ref 203), some (.int v1), some (.int v2), some (.int v3), some (.int v4), some (.int v5), l6] [] μ (c52 v1 v2 v3 v4 v5 μ)) : ∀ (v1 : Int32) (v3 : Int32) (v4 : Int32) (v5 : Int32) (v6 : Int32) (s0 : Int32) (l2 : Option Value) (μ : xe_Mem), zT zPr μ0 μ → zK zPr μ0 δ d 171 98 [some (.ref 203), some (.int v1), l2, some (.int v3), some (.int v4), some (.int v5), some (.int v6)] [.int s0] μ (zD171_98  c52 v1 v3 v4 v5 v6 s0 μ) := by
  intro v1 v3 v4 v5 v6 s0 l2 μ hT
  unfold zD171_98
  refine zK_op rfl rfl ?_
  exact zD171_99_ok hd hc52 v1 s0 v3 v4 v5 v6 μ hT
theorem zD171_52_bok {μ0 : xe_Mem} {δ : xe_Dy} {d : Nat} (hd : 2 ≤ d) {c44 : Int32 → Int32 → Int32 → Int32 → xe_Mem → zO} (hc44 : ∀ (v1 : Int32) (v2 : Int32) (v3 : Int32) (v4 : Int32) (l5 : Option Value) (l6 : Option Value) (μ : xe_Mem), zT zPr μ0 μ → zK zPr μ0 δ d 171 44 [some (.ref 203), some (.int v1), some (.int v2), some (.int v3), some (.int v4), l5, l6] [] μ (c44 v1 v2 v3 v4 μ)) {c52 : Int32 → Int32 → Int32 → Int32 → Int32 → xe_Mem → zO} (hc52 : ∀ (v1 : Int32) (v2 : Int32) (v3 : Int32) (v4 : Int32) (v5 : Int32) (l6 : Option Value) (μ : xe_Mem), zT zPr μ0 μ → zK zPr μ0 δ d 171 52 [some (.ref 203), some (.int v1), some (.int v2), some (.int v3), some (.int v4), some (.int v5), l6] [] μ (c52 v1 v2 v3 v4 v5 μ)) : ∀ (v1 : Int32) (v2 : Int32) (v3 : Int32) (v4 : Int32) (v5 : Int32) (l6 : Option Value) (μ : xe_Mem), zT zPr μ0 μ → zK zPr μ0 δ d 171 52 [some (.ref 203), some (.int v1), some (.int v2), some (.int v3), some (.int v4), some (.int v5), l6] [] μ (zD171_52_b  c44 c52 v1 v2 v3 v4 v5 μ) := by
  intro v1 v2 v3 v4 v5 l6 μ hT
  unfold zD171_52_b
  refine zK_op rfl rfl ?_
  refine zK_op rfl rfl ?_
  refine zK_gI rfl rfl hT ?_
  refine zK_icge rfl (fun _ => ?_) (fun _ => ?_)
  · refine zK_op rfl rfl ?_
    refine zK_op rfl rfl ?_
    exact zD171_127_ok hd hc44 zfu v1 v2 v3 v4 0 _ μ hT
  refine zK_op rfl rfl ?_
  refine zK_gRl (b := 218) rfl rfl rfl hT ?_
  refine zK_op rfl rfl ?_
  refine zK_x (fun j82 h83 h84 h85 => ?_)
  refine zK_aI rfl rfl hT h83 h84 h85 ?_
  refine zK_op rfl rfl ?_
  refine zK_icne rfl (fun _ => ?_) (fun _ => ?_)
  · refine zK_op rfl rfl ?_
    refine zK_op rfl rfl ?_
    refine zK_gRl (b := 221) rfl rfl rfl hT ?_
    refine zK_op rfl rfl ?_
    refine zK_x (fun j86 h87 h88 h89 => ?_)
    refine zK_aI rfl rfl hT h87 h88 h89 ?_
    refine zK_dv (fun h90 => ?_)
    refine zK_i2d rfl h90 ?_
    refine zK_ifeq rfl (fun _ => ?_) (fun _ => ?_)
    · refine zK_op rfl rfl ?_
      refine zK_op rfl rfl ?_
      refine zK_gRl (b := 221) rfl rfl rfl hT ?_
      refine zK_op rfl rfl ?_
      refine zK_x (fun j91 h92 h93 h94 => ?_)
      refine zK_aI rfl rfl hT h92 h93 h94 ?_
      refine zK_dv (fun h95 => ?_)
      refine zK_i2d rfl h95 ?_
      refine zK_vI (fun x96 => ?_)
      refine zK_op rfl rfl ?_
      refine zK_op rfl rfl ?_
      refine zK_gRl (b := 259) rfl rfl rfl hT ?_
      refine zK_op rfl rfl ?_
      refine zK_x (fun j97 h98 h99 h100 => ?_)
      refine zK_aI rfl rfl hT h98 h99 h100 ?_
      refine zK_ifle rfl (fun _ => ?_) (fun _ => ?_)
      · exact zD171_99_ok hd hc52 v1 v2 v3 v4 v5 x96 μ hT
      refine zK_op rfl rfl ?_
      refine zK_gRl (b := 230) rfl rfl rfl hT ?_
      refine zK_op rfl rfl ?_
      refine zK_op rfl rfl ?_
      refine zK_op rfl rfl ?_
      refine zK_op rfl rfl ?_
      refine zK_op rfl rfl ?_
      refine zK_op rfl rfl ?_
      refine zK_op rfl rfl ?_
      refine zK_op rfl rfl ?_
      refine zK_x (fun j121 h122 h123 h124 => ?_)
      refine zK_sI (a := 230) (g := (fun x => x)) rfl rfl hT h122 h123 h124 rfl (fun m125 T126 => ?_)
      refine zK_op rfl rfl ?_
      refine zK_ifge rfl (fun _ => ?_) (fun _ => ?_)
      · refine zK_op rfl rfl ?_
        exact zD171_98_ok hd hc52 v1 v3 v4 v5 x96 v2 _ m125 T126
      refine zK_op rfl rfl ?_
      refine zK_op rfl rfl ?_
      exact zD171_98_ok hd hc52 v1 v3 v4 v5 x96 v5 _ m125 T126
    refine zK_op rfl rfl ?_
    exact zD171_123_ok hd hc52 v1 v2 v3 v4 v5 _ μ hT
  exact zD171_123_ok hd hc52 v1 v2 v3 v4 v5 _ μ hT
theorem zD171_52_ok {μ0 : xe_Mem} {δ : xe_Dy} {d : Nat} (hd : 2 ≤ d) {c44 : Int32 → Int32 → Int32 → Int32 → xe_Mem → zO} (hc44 : ∀ (v1 : Int32) (v2 : Int32) (v3 : Int32) (v4 : Int32) (l5 : Option Value) (l6 : Option Value) (μ : xe_Mem), zT zPr μ0 μ → zK zPr μ0 δ d 171 44 [some (.ref 203), some (.int v1), some (.int v2), some (.int v3), some (.int v4), l5, l6] [] μ (c44 v1 v2 v3 v4 μ)) : ∀ n : Nat, ∀ (v1 : Int32) (v2 : Int32) (v3 : Int32) (v4 : Int32) (v5 : Int32) (l6 : Option Value) (μ : xe_Mem), zT zPr μ0 μ → zK zPr μ0 δ d 171 52 [some (.ref 203), some (.int v1), some (.int v2), some (.int v3), some (.int v4), some (.int v5), l6] [] μ (zD171_52  c44 n v1 v2 v3 v4 v5 μ) := by
  intro n
  induction n with
  | zero => exact fun _ _ _ _ _ _ _ _  => fun o μ' h => by cases h
  | succ n ih => exact zD171_52_bok hd  hc44 ih
theorem zD171_44_bok {μ0 : xe_Mem} {δ : xe_Dy} {d : Nat} (hd : 2 ≤ d)  {c44 : Int32 → Int32 → Int32 → Int32 → xe_Mem → zO} (hc44 : ∀ (v1 : Int32) (v2 : Int32) (v3 : Int32) (v4 : Int32) (l5 : Option Value) (l6 : Option Value) (μ : xe_Mem), zT zPr μ0 μ → zK zPr μ0 δ d 171 44 [some (.ref 203), some (.int v1), some (.int v2), some (.int v3), some (.int v4), l5, l6] [] μ (c44 v1 v2 v3 v4 μ)) : ∀ (v1 : Int32) (v2 : Int32) (v3 : Int32) (v4 : Int32) (l5 : Option Value) (l6 : Option Value) (μ : xe_Mem), zT zPr μ0 μ → zK zPr μ0 δ d 171 44 [some (.ref 203), some (.int v1), some (.int v2), some (.int v3), some (.int v4), l5, l6] [] μ (zD171_44_b  c44 v1 v2 v3 v4 μ) := by
  intro v1 v2 v3 v4 l5 l6 μ hT
  unfold zD171_44_b
  refine zK_op rfl rfl ?_
  refine zK_op rfl rfl ?_
  refine zK_gRl (b := 214) rfl rfl rfl hT ?_
  refine zK_op rfl rfl ?_
  refine zK_x (fun j7 h8 h9 h10 => ?_)
  refine zK_aI rfl rfl hT h8 h9 h10 ?_
  refine zK_icgt rfl (fun _ => ?_) (fun _ => ?_)
  · refine zK_op rfl rfl ?_
    refine zK_op rfl rfl ?_
    exact zD171_180_ok hd zfu v1 v2 v3 0 _ _ μ hT
  refine zK_op rfl rfl ?_
  refine zK_op rfl rfl ?_
  exact zD171_52_ok hd hc44 zfu v1 v2 v3 v4 0 _ μ hT
theorem zD171_44_ok {μ0 : xe_Mem} {δ : xe_Dy} {d : Nat} (hd : 2 ≤ d)  : ∀ n : Nat, ∀ (v1 : Int32) (v2 : Int32) (v3 : Int32) (v4 : Int32) (l5 : Option Value) (l6 : Option Value) (μ : xe_Mem), zT zPr μ0 μ → zK zPr μ0 δ d 171 44 [some (.ref 203), some (.int v1), some (.int v2), some (.int v3), some (.int v4), l5, l6] [] μ (zD171_44  n v1 v2 v3 v4 μ) := by
  intro n
  induction n with
  | zero => exact fun _ _ _ _ _ _ _ _  => fun o μ' h => by cases h
  | succ n ih => exact zD171_44_bok hd   ih
theorem zD171_33_ok {μ0 : xe_Mem} {δ : xe_Dy} {d : Nat} (hd : 2 ≤ d) {c6 : Int32 → Int32 → Int32 → Int32 → xe_Mem → zO} (hc6 : ∀ (v1 : Int32) (v2 : Int32) (v3 : Int32) (v4 : Int32) (μ : xe_Mem), zT zPr μ0 μ → zK zPr μ0 δ d 171 6 [some (.ref 203), some (.int v1), some (.int v2), some (.int v3), some (.int v4), none, none] [] μ (c6 v1 v2 v3 v4 μ)) : ∀ (v1 : Int32) (v2 : Int32) (v4 : Int32) (s0 : Int32) (s1 : Int32) (l3 : Option Value) (μ : xe_Mem), zT zPr μ0 μ → zK zPr μ0 δ d 171 33 [some (.ref 203), some (.int v1), some (.int v2), l3, some (.int v4), none, none] [.int s1, .int s0] μ (zD171_33  c6 v1 v2 v4 s0 s1 μ) := by
  intro v1 v2 v4 s0 s1 l3 μ hT
  unfold zD171_33
  refine zK_op rfl rfl ?_
  refine zK_vI (fun x145 => ?_)
  refine zK_op rfl rfl ?_
  refine zK_op rfl rfl ?_
  refine zK_op rfl rfl ?_
  exact hc6 v1 v2 x145 (v4 + (1)) μ hT
theorem zD171_6_bok {μ0 : xe_Mem} {δ : xe_Dy} {d : Nat} (hd : 2 ≤ d)  {c6 : Int32 → Int32 → Int32 → Int32 → xe_Mem → zO} (hc6 : ∀ (v1 : Int32) (v2 : Int32) (v3 : Int32) (v4 : Int32) (μ : xe_Mem), zT zPr μ0 μ → zK zPr μ0 δ d 171 6 [some (.ref 203), some (.int v1), some (.int v2), some (.int v3), some (.int v4), none, none] [] μ (c6 v1 v2 v3 v4 μ)) : ∀ (v1 : Int32) (v2 : Int32) (v3 : Int32) (v4 : Int32) (μ : xe_Mem), zT zPr μ0 μ → zK zPr μ0 δ d 171 6 [some (.ref 203), some (.int v1), some (.int v2), some (.int v3), some (.int v4), none, none] [] μ (zD171_6_b  c6 v1 v2 v3 v4 μ) := by
  intro v1 v2 v3 v4 μ hT
  unfold zD171_6_b
  refine zK_op rfl rfl ?_
  refine zK_op rfl rfl ?_
  refine zK_gI rfl rfl hT ?_
  refine zK_icge rfl (fun _ => ?_) (fun _ => ?_)
  · refine zK_op rfl rfl ?_
    refine zK_gRl (b := 216) rfl rfl rfl hT ?_
    refine zK_op rfl rfl ?_
    refine zK_op rfl rfl ?_
    refine zK_x (fun j1 h2 h3 h4 => ?_)
    refine zK_sI (a := 216) (g := (fun x => x)) rfl rfl hT h2 h3 h4 rfl (fun m5 T6 => ?_)
    refine zK_op rfl rfl ?_
    refine zK_op rfl rfl ?_
    exact zD171_44_ok hd zfu v1 v2 v3 0 _ _ m5 T6
  refine zK_op rfl rfl ?_
  refine zK_gRl (b := 259) rfl rfl rfl hT ?_
  refine zK_op rfl rfl ?_
  refine zK_op rfl rfl ?_
  refine zK_x (fun j127 h128 h129 h130 => ?_)
  refine zK_sI (a := 259) (g := (fun x => x)) rfl rfl hT h128 h129 h130 rfl (fun m131 T132 => ?_)
  refine zK_op rfl rfl ?_
  refine zK_op rfl rfl ?_
  refine zK_gRl (b := 218) rfl rfl rfl T132 ?_
  refine zK_op rfl rfl ?_
  refine zK_x (fun j133 h134 h135 h136 => ?_)
  refine zK_aI rfl rfl T132 h134 h135 h136 ?_
  refine zK_op rfl rfl ?_
  refine zK_icne rfl (fun _ => ?_) (fun _ => ?_)
  · refine zK_op rfl rfl ?_
    refine zK_gRl (b := 220) rfl rfl rfl T132 ?_
    refine zK_op rfl rfl ?_
    refine zK_x (fun j137 h138 h139 h140 => ?_)
    refine zK_aI rfl rfl T132 h138 h139 h140 ?_
    refine zK_op rfl rfl ?_
    refine zK_gRl (b := 228) rfl rfl rfl T132 ?_
    refine zK_op rfl rfl ?_
    refine zK_x (fun j141 h142 h143 h144 => ?_)
    refine zK_aI rfl rfl T132 h142 h143 h144 ?_
    refine zK_op rfl rfl ?_
    refine zK_op rfl rfl ?_
    exact zD171_33_ok hd hc6 v1 v2 v4 v3 ((xe_I m131 220 j137) * (xe_I m131 228 j141)) _ m131 T132
  refine zK_op rfl rfl ?_
  exact zD171_33_ok hd hc6 v1 v2 v4 v3 0 _ m131 T132
theorem zD171_6_ok {μ0 : xe_Mem} {δ : xe_Dy} {d : Nat} (hd : 2 ≤ d)  : ∀ n : Nat, ∀ (v1 : Int32) (v2 : Int32) (v3 : Int32) (v4 : Int32) (μ : xe_Mem), zT zPr μ0 μ → zK zPr μ0 δ d 171 6 [some (.ref 203), some (.int v1), some (.int v2), some (.int v3), some (.int v4), none, none] [] μ (zD171_6  n v1 v2 v3 v4 μ) := by
  intro n
  induction n with
  | zero => exact fun _ _ _ _ _ _  => fun o μ' h => by cases h
  | succ n ih => exact zD171_6_bok hd   ih
theorem zD171_ok {μ0 : xe_Mem} {δ : xe_Dy} {d : Nat} (hd : 2 ≤ d) (a1 : Int32) (μ : xe_Mem) (hT : zT zPr μ0 μ) : zK zPr μ0 δ d 171 0 (xe_init [.ref 203, .int a1] (xM_L 171)) [] μ (zD171 a1 μ) := by
  unfold zD171
  show zK zPr μ0 δ d 171 0 [some (.ref 203), some (.int a1), none, none, none, none, none] [] μ _
  refine zK_op rfl rfl ?_
  refine zK_op rfl rfl ?_
  refine zK_op rfl rfl ?_
  refine zK_op rfl rfl ?_
  refine zK_op rfl rfl ?_
  refine zK_op rfl rfl ?_
  exact zD171_6_ok hd zfu a1 ((-1)) 0 0 μ hT
/-! 133 LogicalTimesModel.compile()I -/
def zD133_110_b (c110 : Int32 → Int32 → xe_Mem → zO) (v2 : Int32) (v3 : Int32) (μ : xe_Mem) : zO := if (xe_I μ 203 17) ≤ v3 then some (.inl (some (.int 0)), μ) else zq_cV (zD171 v3 μ) fun m23 => c110 v2 (v3 + (1)) m23
def zD133_110   : Nat → Int32 → Int32 → xe_Mem → zO
  | 0 => fun _ _ _  => none
  | n + 1 => zD133_110_b   (zD133_110   n)
def zD133_98 (v1 : Int32) (v2 : Int32) (μ : xe_Mem) : zO := if v1 = 0 then zq_cV (zD140 μ) fun m19 => some (.inl (some (.int (1 + v2))), m19) else zq_cV (zD169 μ) fun m21 => zD133_110 zfu v2 0 m21
def zD133_85 (v1 : Int32) (v2 : Int32) (μ : xe_Mem) : zO := if v1 = 0 then zD133_98 v1 v2 μ else if 0 ≤ v2 then zD133_98 v1 v2 μ else zq_x (((-1)) - v2) 16 fun j25 => zq_vI (xe_I μ 235 j25) fun x29 => zD133_98 0 x29 μ
def zD133_83 (c68 : Int32 → Int32 → Int32 → xe_Mem → zO) (v1 : Int32) (v2 : Int32) (v3 : Int32) (μ : xe_Mem) : zO := c68 v1 v2 (v3 + (-1)) μ
def zD133_68_b (c68 : Int32 → Int32 → Int32 → xe_Mem → zO) (v1 : Int32) (v2 : Int32) (v3 : Int32) (μ : xe_Mem) : zO := if v3 < 0 then zD133_85 v1 v2 μ else if v1 = 0 then zD133_85 v1 v2 μ else zq_x v3 16 fun j30 => zq_cI (zD152 (xe_L μ 234 j30) μ) fun x36 m34 => if 0 ≤ x36 then zD133_83 c68 v1 v2 v3 m34 else zq_vI (((-1)) - v3) fun x37 => zD133_83 c68 v1 x37 v3 m34
def zD133_68   : Nat → Int32 → Int32 → Int32 → xe_Mem → zO
  | 0 => fun _ _ _ _  => none
  | n + 1 => zD133_68_b   (zD133_68   n)
def zD133_57 (v1 : Int32) (μ : xe_Mem) : zO := zq_x (xe_I μ 203 10) 3002 fun j13 => zq_vI (xe_I μ 208 j13) fun x17 => zq_vI ((xe_I μ 203 37) - 1) fun x18 => zD133_68 zfu v1 x17 x18 μ
def zD133_45_b (c45 : Int32 → xe_Mem → zO) (v1 : Int32) (μ : xe_Mem) : zO := if v1 = 0 then zD133_57 v1 μ else zq_x (xe_I μ 203 10) 3002 fun j38 => if (xe_I μ 207 j38) = 0 then zD133_57 v1 μ else zq_cI (zD151 μ) fun x44 m42 => c45 x44 m42
def zD133_45   : Nat → Int32 → xe_Mem → zO
  | 0 => fun _ _  => none
  | n + 1 => zD133_45_b   (zD133_45   n)
def zD133_44 (s0 : Int32) (μ : xe_Mem) : zO := zD133_45 zfu s0 μ
def zD133_43 (μ : xe_Mem) : zO := zD133_44 0 μ
def zD133_41 (μ : xe_Mem) : zO := zD133_44 1 μ
def zD133_32 (v1 : Int32) (μ : xe_Mem) : zO := if v1 = 0 then zD133_43 μ else zq_cI (zD141 2 μ) fun x47 m45 => if x47 = 0 then zq_cI (zD150 m45) fun x50 m48 => if x50 = 0 then zD133_43 m48 else zD133_41 m48 else zD133_41 m45
def zD133_28 (c18 : Int32 → xe_Mem → zO) (μ : xe_Mem) : zO := zq_cI (zD142 μ) fun x59 m57 => c18 x59 m57
def zD133_18_b (c18 : Int32 → xe_Mem → zO) (v1 : Int32) (μ : xe_Mem) : zO := if v1 = 0 then zD133_32 v1 μ else zq_cI (zD141 0 μ) fun x53 m51 => if x53 = 0 then zq_cI (zD141 1 m51) fun x56 m54 => if x56 = 0 then zD133_32 v1 m54 else zD133_28 c18 m54 else zD133_28 c18 m51
def zD133_18   : Nat → Int32 → xe_Mem → zO
  | 0 => fun _ _  => none
  | n + 1 => zD133_18_b   (zD133_18   n)
def zD133   (μ : xe_Mem) : zO := zq_m (xe_setI μ 203 0 0) fun m1 => zq_cV (zD134 m1) fun m3 => zq_m (xe_setI m3 203 3 0) fun m5 => zq_cV (zD140 m5) fun m7 => zq_m (xe_setI m7 203 10 0) fun m9 => zq_m (xe_setI m9 203 11 0) fun m11 => zD133_18 zfu 1 m11
theorem zD133_110_bok {μ0 : xe_Mem} {δ : xe_Dy} {d : Nat} (hd : 8 ≤ d)  {c110 : Int32 → Int32 → xe_Mem → zO} (hc110 : ∀ (v2 : Int32) (v3 : Int32) (l1 : Option Value) (μ : xe_Mem), zT zPr μ0 μ → zK zPr μ0 δ d 133 110 [some (.ref 203), l1, some (.int v2), some (.int v3)] [] μ (c110 v2 v3 μ)) : ∀ (v2 : Int32) (v3 : Int32) (l1 : Option Value) (μ : xe_Mem), zT zPr μ0 μ → zK zPr μ0 δ d 133 110 [some (.ref 203), l1, some (.int v2), some (.int v3)] [] μ (zD133_110_b  c110 v2 v3 μ) := by
  intro v2 v3 l1 μ hT
  unfold zD133_110_b
  refine zK_op rfl rfl ?_
  refine zK_op rfl rfl ?_
  refine zK_gI rfl rfl hT ?_
  refine zK_icge rfl (fun _ => ?_) (fun _ => ?_)
  · refine zK_op rfl rfl ?_
    exact zK_ret1 rfl hT
  refine zK_op rfl rfl ?_
  refine zK_op rfl rfl ?_
  refine zK_cV rfl (as := [.ref 203, .int v3]) (rest := []) rfl rfl (xe_rcvO (zT_sh hT rfl)) (Nat.le_of_ble_eq_true rfl) (Nat.le_of_ble_eq_true rfl) (by decide) (fun _ => rfl) (by omega) (zD171_ok (by omega) v3 μ hT) (fun m23 T24 => ?_)
  refine zK_op rfl rfl ?_
  refine zK_op rfl rfl ?_
  exact hc110 v2 (v3 + (1)) _ m23 T24
theorem zD133_110_ok {μ0 : xe_Mem} {δ : xe_Dy} {d : Nat} (hd : 8 ≤ d)  : ∀ n : Nat, ∀ (v2 : Int32) (v3 : Int32) (l1 : Option Value) (μ : xe_Mem), zT zPr μ0 μ → zK zPr μ0 δ d 133 110 [some (.ref 203), l1, some (.int v2), some (.int v3)] [] μ (zD133_110  n v2 v3 μ) := by
  intro n
  induction n with
  | zero => exact fun _ _ _ _ _  => fun o μ' h => by cases h
  | succ n ih => exact zD133_110_bok hd   ih
theorem zD133_98_ok {μ0 : xe_Mem} {δ : xe_Dy} {d : Nat} (hd : 8 ≤ d)  : ∀ (v1 : Int32) (v2 : Int32) (l3 : Option Value) (μ : xe_Mem), zT zPr μ0 μ → zK zPr μ0 δ d 133 98 [some (.ref 203), some (.int v1), some (.int v2), l3] [] μ (zD133_98  v1 v2 μ) := by
  intro v1 v2 l3 μ hT
  unfold zD133_98
  refine zK_op rfl rfl ?_
  refine zK_ifne rfl (fun _ => ?_) (fun _ => ?_)
  · refine zK_op rfl rfl ?_
    refine zK_cV rfl (as := [.ref 203]) (rest := []) rfl rfl (xe_rcvO (zT_sh hT rfl)) (Nat.le_of_ble_eq_true rfl) (Nat.le_of_ble_eq_true rfl) (by decide) (fun _ => rfl) (by omega) (zD140_ok (by omega) μ hT) (fun m19 T20 => ?_)
    refine zK_op rfl rfl ?_
    refine zK_op rfl rfl ?_
    refine zK_op rfl rfl ?_
    exact zK_ret1 rfl T20
  refine zK_op rfl rfl ?_
  refine zK_cV rfl (as := [.ref 203]) (rest := []) rfl rfl (xe_rcvO (zT_sh hT rfl)) (Nat.le_of_ble_eq_true rfl) (Nat.le_of_ble_eq_true rfl) (by decide) (fun _ => rfl) (by omega) (zD169_ok (by omega) μ hT) (fun m21 T22 => ?_)
  refine zK_op rfl rfl ?_
  refine zK_op rfl rfl ?_
  exact zD133_110_ok hd zfu v2 0 _ m21 T22
theorem zD133_85_ok {μ0 : xe_Mem} {δ : xe_Dy} {d : Nat} (hd : 8 ≤ d)  : ∀ (v1 : Int32) (v2 : Int32) (l3 : Option Value) (μ : xe_Mem), zT zPr μ0 μ → zK zPr μ0 δ d 133 85 [some (.ref 203), some (.int v1), some (.int v2), l3] [] μ (zD133_85  v1 v2 μ) := by
  intro v1 v2 l3 μ hT
  unfold zD133_85
  refine zK_op rfl rfl ?_
  refine zK_ifeq rfl (fun _ => ?_) (fun _ => ?_)
  · exact zD133_98_ok hd v1 v2 _ μ hT
  refine zK_op rfl rfl ?_
  refine zK_ifge rfl (fun _ => ?_) (fun _ => ?_)
  · exact zD133_98_ok hd v1 v2 _ μ hT
  refine zK_op rfl rfl ?_
  refine zK_gRl (b := 235) rfl rfl rfl hT ?_
  refine zK_op rfl rfl ?_
  refine zK_op rfl rfl ?_
  refine zK_op rfl rfl ?_
  refine zK_x (fun j25 h26 h27 h28 => ?_)
  refine zK_aI rfl rfl hT h26 h27 h28 ?_
  refine zK_vI (fun x29 => ?_)
  refine zK_op rfl rfl ?_
  refine zK_op rfl rfl ?_
  refine zK_op rfl rfl ?_
  exact zD133_98_ok hd 0 x29 _ μ hT
theorem zD133_83_ok {μ0 : xe_Mem} {δ : xe_Dy} {d : Nat} (hd : 8 ≤ d) {c68 : Int32 → Int32 → Int32 → xe_Mem → zO} (hc68 : ∀ (v1 : Int32) (v2 : Int32) (v3 : Int32) (μ : xe_Mem), zT zPr μ0 μ → zK zPr μ0 δ d 133 68 [some (.ref 203), some (.int v1), some (.int v2), some (.int v3)] [] μ (c68 v1 v2 v3 μ)) : ∀ (v1 : Int32) (v2 : Int32) (v3 : Int32) (μ : xe_Mem), zT zPr μ0 μ → zK zPr μ0 δ d 133 83 [some (.ref 203), some (.int v1), some (.int v2), some (.int v3)] [] μ (zD133_83  c68 v1 v2 v3 μ) := by
  intro v1 v2 v3 μ hT
  unfold zD133_83
  refine zK_op rfl rfl ?_
  refine zK_op rfl rfl ?_
  exact hc68 v1 v2 (v3 + (-1)) μ hT
theorem zD133_68_bok {μ0 : xe_Mem} {δ : xe_Dy} {d : Nat} (hd : 8 ≤ d)  {c68 : Int32 → Int32 → Int32 → xe_Mem → zO} (hc68 : ∀ (v1 : Int32) (v2 : Int32) (v3 : Int32) (μ : xe_Mem), zT zPr μ0 μ → zK zPr μ0 δ d 133 68 [some (.ref 203), some (.int v1), some (.int v2), some (.int v3)] [] μ (c68 v1 v2 v3 μ)) : ∀ (v1 : Int32) (v2 : Int32) (v3 : Int32) (μ : xe_Mem), zT zPr μ0 μ → zK zPr μ0 δ d 133 68 [some (.ref 203), some (.int v1), some (.int v2), some (.int v3)] [] μ (zD133_68_b  c68 v1 v2 v3 μ) := by
  intro v1 v2 v3 μ hT
  unfold zD133_68_b
  refine zK_op rfl rfl ?_
  refine zK_iflt rfl (fun _ => ?_) (fun _ => ?_)
  · exact zD133_85_ok hd v1 v2 _ μ hT
  refine zK_op rfl rfl ?_
  refine zK_ifeq rfl (fun _ => ?_) (fun _ => ?_)
  · exact zD133_85_ok hd v1 v2 _ μ hT
  refine zK_op rfl rfl ?_
  refine zK_op rfl rfl ?_
  refine zK_gRl (b := 234) rfl rfl rfl hT ?_
  refine zK_op rfl rfl ?_
  refine zK_x (fun j30 h31 h32 h33 => ?_)
  refine zK_aL rfl rfl hT h31 h32 h33 ?_
  refine zK_cI rfl (as := [.ref 203, .long (xe_L μ 234 j30)]) (rest := []) rfl rfl (xe_rcvO (zT_sh hT rfl)) (Nat.le_of_ble_eq_true rfl) (Nat.le_of_ble_eq_true rfl) (by decide) (fun _ => rfl) (by omega) (zD152_ok (by omega) (xe_L μ 234 j30) μ hT) (fun x36 m34 T35 => ?_)
  refine zK_ifge rfl (fun _ => ?_) (fun _ => ?_)
  · exact zD133_83_ok hd hc68 v1 v2 v3 m34 T35
  refine zK_op rfl rfl ?_
  refine zK_op rfl rfl ?_
  refine zK_op rfl rfl ?_
  refine zK_vI (fun x37 => ?_)
  refine zK_op rfl rfl ?_
  exact zD133_83_ok hd hc68 v1 x37 v3 m34 T35
theorem zD133_68_ok {μ0 : xe_Mem} {δ : xe_Dy} {d : Nat} (hd : 8 ≤ d)  : ∀ n : Nat, ∀ (v1 : Int32) (v2 : Int32) (v3 : Int32) (μ : xe_Mem), zT zPr μ0 μ → zK zPr μ0 δ d 133 68 [some (.ref 203), some (.int v1), some (.int v2), some (.int v3)] [] μ (zD133_68  n v1 v2 v3 μ) := by
  intro n
  induction n with
  | zero => exact fun _ _ _ _ _  => fun o μ' h => by cases h
  | succ n ih => exact zD133_68_bok hd   ih
theorem zD133_57_ok {μ0 : xe_Mem} {δ : xe_Dy} {d : Nat} (hd : 8 ≤ d)  : ∀ (v1 : Int32) (μ : xe_Mem), zT zPr μ0 μ → zK zPr μ0 δ d 133 57 [some (.ref 203), some (.int v1), none, none] [] μ (zD133_57  v1 μ) := by
  intro v1 μ hT
  unfold zD133_57
  refine zK_op rfl rfl ?_
  refine zK_gRl (b := 208) rfl rfl rfl hT ?_
  refine zK_op rfl rfl ?_
  refine zK_gI rfl rfl hT ?_
  refine zK_x (fun j13 h14 h15 h16 => ?_)
  refine zK_aI rfl rfl hT h14 h15 h16 ?_
  refine zK_vI (fun x17 => ?_)
  refine zK_op rfl rfl ?_
  refine zK_op rfl rfl ?_
  refine zK_gI rfl rfl hT ?_
  refine zK_op rfl rfl ?_
  refine zK_op rfl rfl ?_
  refine zK_vI (fun x18 => ?_)
  refine zK_op rfl rfl ?_
  exact zD133_68_ok hd zfu v1 x17 x18 μ hT
theorem zD133_45_bok {μ0 : xe_Mem} {δ : xe_Dy} {d : Nat} (hd : 8 ≤ d)  {c45 : Int32 → xe_Mem → zO} (hc45 : ∀ (v1 : Int32) (μ : xe_Mem), zT zPr μ0 μ → zK zPr μ0 δ d 133 45 [some (.ref 203), some (.int v1), none, none] [] μ (c45 v1 μ)) : ∀ (v1 : Int32) (μ : xe_Mem), zT zPr μ0 μ → zK zPr μ0 δ d 133 45 [some (.ref 203), some (.int v1), none, none] [] μ (zD133_45_b  c45 v1 μ) := by
  intro v1 μ hT
  unfold zD133_45_b
  refine zK_op rfl rfl ?_
  refine zK_ifeq rfl (fun _ => ?_) (fun _ => ?_)
  · exact zD133_57_ok hd v1 μ hT
  refine zK_op rfl rfl ?_
  refine zK_gRl (b := 207) rfl rfl rfl hT ?_
  refine zK_op rfl rfl ?_
  refine zK_gI rfl rfl hT ?_
  refine zK_x (fun j38 h39 h40 h41 => ?_)
  refine zK_aI rfl rfl hT h39 h40 h41 ?_
  refine zK_ifeq rfl (fun _ => ?_) (fun _ => ?_)
  · exact zD133_57_ok hd v1 μ hT
  refine zK_op rfl rfl ?_
  refine zK_cI rfl (as := [.ref 203]) (rest := []) rfl rfl (xe_rcvO (zT_sh hT rfl)) (Nat.le_of_ble_eq_true rfl) (Nat.le_of_ble_eq_true rfl) (by decide) (fun _ => rfl) (by omega) (zD151_ok (by omega) μ hT) (fun x44 m42 T43 => ?_)
  refine zK_op rfl rfl ?_
  refine zK_op rfl rfl ?_
  exact hc45 x44 m42 T43
theorem zD133_45_ok {μ0 : xe_Mem} {δ : xe_Dy} {d : Nat} (hd : 8 ≤ d)  : ∀ n : Nat, ∀ (v1 : Int32) (μ : xe_Mem), zT zPr μ0 μ → zK zPr μ0 δ d 133 45 [some (.ref 203), some (.int v1), none, none] [] μ (zD133_45  n v1 μ) := by
  intro n
  induction n with
  | zero => exact fun _ _ _  => fun o μ' h => by cases h
  | succ n ih => exact zD133_45_bok hd   ih
theorem zD133_44_ok {μ0 : xe_Mem} {δ : xe_Dy} {d : Nat} (hd : 8 ≤ d)  : ∀ (s0 : Int32) (l1 : Option Value) (μ : xe_Mem), zT zPr μ0 μ → zK zPr μ0 δ d 133 44 [some (.ref 203), l1, none, none] [.int s0] μ (zD133_44  s0 μ) := by
  intro s0 l1 μ hT
  unfold zD133_44
  refine zK_op rfl rfl ?_
  exact zD133_45_ok hd zfu s0 μ hT
theorem zD133_43_ok {μ0 : xe_Mem} {δ : xe_Dy} {d : Nat} (hd : 8 ≤ d)  : ∀ (l1 : Option Value) (μ : xe_Mem), zT zPr μ0 μ → zK zPr μ0 δ d 133 43 [some (.ref 203), l1, none, none] [] μ (zD133_43  μ) := by
  intro l1 μ hT
  unfold zD133_43
  refine zK_op rfl rfl ?_
  exact zD133_44_ok hd 0 _ μ hT
theorem zD133_41_ok {μ0 : xe_Mem} {δ : xe_Dy} {d : Nat} (hd : 8 ≤ d)  : ∀ (l1 : Option Value) (μ : xe_Mem), zT zPr μ0 μ → zK zPr μ0 δ d 133 41 [some (.ref 203), l1, none, none] [] μ (zD133_41  μ) := by
  intro l1 μ hT
  unfold zD133_41
  refine zK_op rfl rfl ?_
  refine zK_op rfl rfl ?_
  exact zD133_44_ok hd 1 _ μ hT
theorem zD133_32_ok {μ0 : xe_Mem} {δ : xe_Dy} {d : Nat} (hd : 8 ≤ d)  : ∀ (v1 : Int32) (μ : xe_Mem), zT zPr μ0 μ → zK zPr μ0 δ d 133 32 [some (.ref 203), some (.int v1), none, none] [] μ (zD133_32  v1 μ) := by
  intro v1 μ hT
  unfold zD133_32
  refine zK_op rfl rfl ?_
  refine zK_ifeq rfl (fun _ => ?_) (fun _ => ?_)
  · exact zD133_43_ok hd _ μ hT
  refine zK_op rfl rfl ?_
  refine zK_op rfl rfl ?_
  refine zK_cI rfl (as := [.ref 203, .int 2]) (rest := []) rfl rfl (xe_rcvO (zT_sh hT rfl)) (Nat.le_of_ble_eq_true rfl) (Nat.le_of_ble_eq_true rfl) (by decide) (fun _ => rfl) (by omega) (zD141_ok (by omega) 2 μ hT) (fun x47 m45 T46 => ?_)
  refine zK_ifne rfl (fun _ => ?_) (fun _ => ?_)
  · refine zK_op rfl rfl ?_
    refine zK_cI rfl (as := [.ref 203]) (rest := []) rfl rfl (xe_rcvO (zT_sh T46 rfl)) (Nat.le_of_ble_eq_true rfl) (Nat.le_of_ble_eq_true rfl) (by decide) (fun _ => rfl) (by omega) (zD150_ok (by omega) m45 T46) (fun x50 m48 T49 => ?_)
    refine zK_ifeq rfl (fun _ => ?_) (fun _ => ?_)
    · exact zD133_43_ok hd _ m48 T49
    exact zD133_41_ok hd _ m48 T49
  exact zD133_41_ok hd _ m45 T46
theorem zD133_28_ok {μ0 : xe_Mem} {δ : xe_Dy} {d : Nat} (hd : 8 ≤ d) {c18 : Int32 → xe_Mem → zO} (hc18 : ∀ (v1 : Int32) (μ : xe_Mem), zT zPr μ0 μ → zK zPr μ0 δ d 133 18 [some (.ref 203), some (.int v1), none, none] [] μ (c18 v1 μ)) : ∀ (l1 : Option Value) (μ : xe_Mem), zT zPr μ0 μ → zK zPr μ0 δ d 133 28 [some (.ref 203), l1, none, none] [] μ (zD133_28  c18 μ) := by
  intro l1 μ hT
  unfold zD133_28
  refine zK_op rfl rfl ?_
  refine zK_cI rfl (as := [.ref 203]) (rest := []) rfl rfl (xe_rcvO (zT_sh hT rfl)) (Nat.le_of_ble_eq_true rfl) (Nat.le_of_ble_eq_true rfl) (by decide) (fun _ => rfl) (by omega) (zD142_ok (by omega) μ hT) (fun x59 m57 T58 => ?_)
  refine zK_op rfl rfl ?_
  refine zK_op rfl rfl ?_
  exact hc18 x59 m57 T58
theorem zD133_18_bok {μ0 : xe_Mem} {δ : xe_Dy} {d : Nat} (hd : 8 ≤ d)  {c18 : Int32 → xe_Mem → zO} (hc18 : ∀ (v1 : Int32) (μ : xe_Mem), zT zPr μ0 μ → zK zPr μ0 δ d 133 18 [some (.ref 203), some (.int v1), none, none] [] μ (c18 v1 μ)) : ∀ (v1 : Int32) (μ : xe_Mem), zT zPr μ0 μ → zK zPr μ0 δ d 133 18 [some (.ref 203), some (.int v1), none, none] [] μ (zD133_18_b  c18 v1 μ) := by
  intro v1 μ hT
  unfold zD133_18_b
  refine zK_op rfl rfl ?_
  refine zK_ifeq rfl (fun _ => ?_) (fun _ => ?_)
  · exact zD133_32_ok hd v1 μ hT
  refine zK_op rfl rfl ?_
  refine zK_op rfl rfl ?_
  refine zK_cI rfl (as := [.ref 203, .int 0]) (rest := []) rfl rfl (xe_rcvO (zT_sh hT rfl)) (Nat.le_of_ble_eq_true rfl) (Nat.le_of_ble_eq_true rfl) (by decide) (fun _ => rfl) (by omega) (zD141_ok (by omega) 0 μ hT) (fun x53 m51 T52 => ?_)
  refine zK_ifne rfl (fun _ => ?_) (fun _ => ?_)
  · refine zK_op rfl rfl ?_
    refine zK_op rfl rfl ?_
    refine zK_cI rfl (as := [.ref 203, .int 1]) (rest := []) rfl rfl (xe_rcvO (zT_sh T52 rfl)) (Nat.le_of_ble_eq_true rfl) (Nat.le_of_ble_eq_true rfl) (by decide) (fun _ => rfl) (by omega) (zD141_ok (by omega) 1 m51 T52) (fun x56 m54 T55 => ?_)
    refine zK_ifeq rfl (fun _ => ?_) (fun _ => ?_)
    · exact zD133_32_ok hd v1 m54 T55
    exact zD133_28_ok hd hc18 _ m54 T55
  exact zD133_28_ok hd hc18 _ m51 T52
theorem zD133_18_ok {μ0 : xe_Mem} {δ : xe_Dy} {d : Nat} (hd : 8 ≤ d)  : ∀ n : Nat, ∀ (v1 : Int32) (μ : xe_Mem), zT zPr μ0 μ → zK zPr μ0 δ d 133 18 [some (.ref 203), some (.int v1), none, none] [] μ (zD133_18  n v1 μ) := by
  intro n
  induction n with
  | zero => exact fun _ _ _  => fun o μ' h => by cases h
  | succ n ih => exact zD133_18_bok hd   ih
theorem zD133_ok {μ0 : xe_Mem} {δ : xe_Dy} {d : Nat} (hd : 8 ≤ d) (μ : xe_Mem) (hT : zT zPr μ0 μ) : zK zPr μ0 δ d 133 0 (xe_init [.ref 203] (xM_L 133)) [] μ (zD133 μ) := by
  unfold zD133
  show zK zPr μ0 δ d 133 0 [some (.ref 203), none, none, none] [] μ _
  refine zK_op rfl rfl ?_
  refine zK_op rfl rfl ?_
  refine zK_pI rfl rfl hT rfl (fun m1 T2 => ?_)
  refine zK_op rfl rfl ?_
  refine zK_cV rfl (as := [.ref 203]) (rest := []) rfl rfl (xe_rcvO (zT_sh T2 rfl)) (Nat.le_of_ble_eq_true rfl) (Nat.le_of_ble_eq_true rfl) (by decide) (fun _ => rfl) (by omega) (zD134_ok (by omega) m1 T2) (fun m3 T4 => ?_)
  refine zK_op rfl rfl ?_
  refine zK_op rfl rfl ?_
  refine zK_pI rfl rfl T4 rfl (fun m5 T6 => ?_)
  refine zK_op rfl rfl ?_
  refine zK_cV rfl (as := [.ref 203]) (rest := []) rfl rfl (xe_rcvO (zT_sh T6 rfl)) (Nat.le_of_ble_eq_true rfl) (Nat.le_of_ble_eq_true rfl) (by decide) (fun _ => rfl) (by omega) (zD140_ok (by omega) m5 T6) (fun m7 T8 => ?_)
  refine zK_op rfl rfl ?_
  refine zK_op rfl rfl ?_
  refine zK_pI rfl rfl T8 rfl (fun m9 T10 => ?_)
  refine zK_op rfl rfl ?_
  refine zK_op rfl rfl ?_
  refine zK_pZ rfl rfl (Or.inl rfl) T10 rfl (fun m11 T12 => ?_)
  refine zK_op rfl rfl ?_
  refine zK_op rfl rfl ?_
  exact zD133_18_ok hd zfu 1 m11 T12
