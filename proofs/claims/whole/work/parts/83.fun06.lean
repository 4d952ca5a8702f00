/-! methods as functions (by wip/whole/gen/dec.py) -/
/-! 107 LogicalTimes$Runner.publish(LLogicalTimes$Task;)V -/
def zD107_49 (c22 : Nat → Int32 → Int32 → xe_Mem → zO) (v1 : Nat) (v2 : Int32) (v3 : Int32) (μ : xe_Mem) : zO := c22 v1 v2 (v3 + (1)) μ
def zD107_22_b (c22 : Nat → Int32 → Int32 → xe_Mem → zO) (v1 : Nat) (v2 : Int32) (v3 : Int32) (μ : xe_Mem) : zO := if (xe_I μ 7 4) ≤ v3 then some (.inl none, μ) else zq_o v1 8 <| if (((xe_I μ v1 6) >>> (v3 &&& 31)) &&& 1) = 0 then zD107_49 c22 v1 v2 v3 μ else zq_s (xe_R μ v1 14) fun b10 => zq_o b10 6 <| zq_s (xe_R μ b10 5) fun b12 => zq_a b12 0 fun N14 => zq_x v3 N14 fun j15 => zq_x v3 12 fun j19 => zq_m (xe_setI μ 195 j19 (xe_I μ b12 j15)) fun m23 => if v2 = 0 then zD107_49 c22 v1 v2 v3 m23 else zq_cV (zD108 v1 v3 m23) fun m25 => zD107_49 c22 v1 v2 v3 m25
def zD107_22   : Nat → Nat → Int32 → Int32 → xe_Mem → zO
  | 0 => fun _ _ _ _  => none
  | n + 1 => zD107_22_b   (zD107_22   n)
def zD107_20 (v1 : Nat) (v2 : Int32) (μ : xe_Mem) : zO := zD107_22 zfu v1 v2 0 μ
def zD107_7 (v1 : Nat) (s0 : Int32) (μ : xe_Mem) : zO := if s0 = 0 then zq_m (xe_setI μ 194 5 ((xe_I μ 194 5) + 1)) fun m4 => zq_o v1 8 <| zq_m (xe_setI m4 194 6 (xe_I m4 v1 0)) fun m7 => zD107_20 v1 s0 m7 else zD107_20 v1 s0 μ
def zD107  (a1 : Nat) (μ : xe_Mem) : zO := zq_o a1 8 <| zq_s (xe_R μ a1 14) fun b2 => zq_o b2 6 <| if (xe_I μ b2 0) = 0 then zD107_7 a1 1 μ else zD107_7 a1 0 μ
theorem zD107_49_ok {μ0 : xe_Mem} {δ : xe_Dy} {d : Nat} (hd : 1 ≤ d) {c22 : Nat → Int32 → Int32 → xe_Mem → zO} (hc22 : ∀ (v1 : Nat) (v2 : Int32) (v3 : Int32) (μ : xe_Mem), zT zPc μ0 μ → zK zPc μ0 δ d 107 22 [some (.ref 194), some (.ref v1), some (.int v2), some (.int v3)] [] μ (c22 v1 v2 v3 μ)) : ∀ (v1 : Nat) (v2 : Int32) (v3 : Int32) (μ : xe_Mem), zT zPc μ0 μ → zK zPc μ0 δ d 107 49 [some (.ref 194), some (.ref v1), some (.int v2), some (.int v3)] [] μ (zD107_49  c22 v1 v2 v3 μ) := by
  intro v1 v2 v3 μ hT
  unfold zD107_49
  refine zK_op rfl rfl ?_
  refine zK_op rfl rfl ?_
  exact hc22 v1 v2 (v3 + (1)) μ hT
theorem zD107_22_bok {μ0 : xe_Mem} {δ : xe_Dy} {d : Nat} (hd : 1 ≤ d)  {c22 : Nat → Int32 → Int32 → xe_Mem → zO} (hc22 : ∀ (v1 : Nat) (v2 : Int32) (v3 : Int32) (μ : xe_Mem), zT zPc μ0 μ → zK zPc μ0 δ d 107 22 [some (.ref 194), some (.ref v1), some (.int v2), some (.int v3)] [] μ (c22 v1 v2 v3 μ)) : ∀ (v1 : Nat) (v2 : Int32) (v3 : Int32) (μ : xe_Mem), zT zPc μ0 μ → zK zPc μ0 δ d 107 22 [some (.ref 194), some (.ref v1), some (.int v2), some (.int v3)] [] μ (zD107_22_b  c22 v1 v2 v3 μ) := by
  intro v1 v2 v3 μ hT
  unfold zD107_22_b
  refine zK_op rfl rfl ?_
  refine zK_op rfl rfl ?_
  refine zK_gRl (b := 7) rfl rfl rfl hT ?_
  refine zK_gI rfl rfl hT ?_
  refine zK_icge rfl (fun _ => ?_) (fun _ => ?_)
  · exact zK_ret0 rfl hT
  refine zK_op rfl rfl ?_
  refine zK_o (fun h9 ph9 => ?_)
  refine zK_gI rfl h9 hT ?_
  refine zK_op rfl rfl ?_
  refine zK_op rfl rfl ?_
  refine zK_op rfl rfl ?_
  refine zK_op rfl rfl ?_
  refine zK_ifeq rfl (fun _ => ?_) (fun _ => ?_)
  · exact zD107_49_ok hd hc22 v1 v2 v3 μ hT
  refine zK_op rfl rfl ?_
  refine zK_gRl (b := 195) rfl rfl rfl hT ?_
  refine zK_op rfl rfl ?_
  refine zK_op rfl rfl ?_
  refine zK_gRs rfl h9 hT (fun b10 => ?_)
  refine zK_o (fun h11 ph11 => ?_)
  refine zK_gRs rfl h11 hT (fun b12 => ?_)
  refine zK_op rfl rfl ?_
  refine zK_a (fun N14 h13 ph13 => ?_)
  refine zK_x (fun j15 h16 h17 h18 => ?_)
  refine zK_aI rfl h13 hT h16 h17 h18 ?_
  refine zK_x (fun j19 h20 h21 h22 => ?_)
  refine zK_sI (a := 195) (g := (fun x => x)) rfl rfl hT h20 h21 h22 rfl (fun m23 T24 => ?_)
  refine zK_op rfl rfl ?_
  refine zK_ifeq rfl (fun _ => ?_) (fun _ => ?_)
  · exact zD107_49_ok hd hc22 v1 v2 v3 m23 T24
  refine zK_op rfl rfl ?_
  refine zK_op rfl rfl ?_
  refine zK_op rfl rfl ?_
  refine zK_cV rfl (as := [.ref 194, .ref v1, .int v3]) (rest := []) rfl rfl (xe_rcvO (zT_sh T24 rfl)) (Nat.le_of_ble_eq_true rfl) (Nat.le_of_ble_eq_true rfl) (by decide) (fun _ => rfl) (by omega) (zD108_ok (by omega) v1 v3 m23 T24) (fun m25 T26 => ?_)
  exact zD107_49_ok hd hc22 v1 v2 v3 m25 T26
theorem zD107_22_ok {μ0 : xe_Mem} {δ : xe_Dy} {d : Nat} (hd : 1 ≤ d)  : ∀ n : Nat, ∀ (v1 : Nat) (v2 : Int32) (v3 : Int32) (μ : xe_Mem), zT zPc μ0 μ → zK zPc μ0 δ d 107 22 [some (.ref 194), some (.ref v1), some (.int v2), some (.int v3)] [] μ (zD107_22  n v1 v2 v3 μ) := by
  intro n
  induction n with
  | zero => exact fun _ _ _ _ _  => fun o μ' h => by cases h
  | succ n ih => exact zD107_22_bok hd   ih
theorem zD107_20_ok {μ0 : xe_Mem} {δ : xe_Dy} {d : Nat} (hd : 1 ≤ d)  : ∀ (v1 : Nat) (v2 : Int32) (μ : xe_Mem), zT zPc μ0 μ → zK zPc μ0 δ d 107 20 [some (.ref 194), some (.ref v1), some (.int v2), none] [] μ (zD107_20  v1 v2 μ) := by
  intro v1 v2 μ hT
  unfold zD107_20
  refine zK_op rfl rfl ?_
  refine zK_op rfl rfl ?_
  exact zD107_22_ok hd zfu v1 v2 0 μ hT
theorem zD107_7_ok {μ0 : xe_Mem} {δ : xe_Dy} {d : Nat} (hd : 1 ≤ d)  : ∀ (v1 : Nat) (s0 : Int32) (μ : xe_Mem), zT zPc μ0 μ → zK zPc μ0 δ d 107 7 [some (.ref 194), some (.ref v1), none, none] [.int s0] μ (zD107_7  v1 s0 μ) := by
  intro v1 s0 μ hT
  unfold zD107_7
  refine zK_op rfl rfl ?_
  refine zK_op rfl rfl ?_
  refine zK_ifne rfl (fun _ => ?_) (fun _ => ?_)
  · refine zK_op rfl rfl ?_
    refine zK_op rfl rfl ?_
    refine zK_gI rfl rfl hT ?_
    refine zK_op rfl rfl ?_
    refine zK_op rfl rfl ?_
    refine zK_pI rfl rfl hT rfl (fun m4 T5 => ?_)
    refine zK_op rfl rfl ?_
    refine zK_op rfl rfl ?_
    refine zK_o (fun h6 ph6 => ?_)
    refine zK_gI rfl h6 T5 ?_
    refine zK_pI rfl rfl T5 rfl (fun m7 T8 => ?_)
    exact zD107_20_ok hd v1 s0 m7 T8
  exact zD107_20_ok hd v1 s0 μ hT
theorem zD107_ok {μ0 : xe_Mem} {δ : xe_Dy} {d : Nat} (hd : 1 ≤ d) (a1 : Nat) (μ : xe_Mem) (hT : zT zPc μ0 μ) : zK zPc μ0 δ d 107 0 (xe_init [.ref 194, .ref a1] (xM_L 107)) [] μ (zD107 a1 μ) := by
  unfold zD107
  show zK zPc μ0 δ d 107 0 [some (.ref 194), some (.ref a1), none, none] [] μ _
  refine zK_op rfl rfl ?_
  refine zK_o (fun h1 ph1 => ?_)
  refine zK_gRs rfl h1 hT (fun b2 => ?_)
  refine zK_o (fun h3 ph3 => ?_)
  refine zK_gI rfl h3 hT ?_
  refine zK_ifne rfl (fun _ => ?_) (fun _ => ?_)
  · refine zK_op rfl rfl ?_
    refine zK_op rfl rfl ?_
    exact zD107_7_ok hd a1 1 μ hT
  refine zK_op rfl rfl ?_
  exact zD107_7_ok hd a1 0 μ hT
/-! 106 LogicalTimes$Runner.endSpans(LLogicalTimes$Mode;)V -/
def zD106_21 (c2 : Nat → Int32 → xe_Mem → zO) (v1 : Nat) (v2 : Int32) (μ : xe_Mem) : zO := c2 v1 (v2 + (1)) μ
def zD106_2_b (c2 : Nat → Int32 → xe_Mem → zO) (v1 : Nat) (v2 : Int32) (μ : xe_Mem) : zO := zq_o v1 2 <| if (xe_I μ v1 3) ≤ v2 then some (.inl none, μ) else zq_s (xe_R μ v1 2) fun b2 => zq_a b2 4 fun N4 => zq_x v2 N4 fun j5 => zq_s (xe_R μ b2 j5) fun b9 => zq_o b9 8 <| zq_d (xe_I μ b9 3) <| if ((xe_I μ 194 3) - (xe_I μ 194 3) / (xe_I μ b9 3) * (xe_I μ b9 3)) = 0 then zq_s (xe_R μ v1 2) fun b12 => zq_a b12 4 fun N14 => zq_x v2 N14 fun j15 => zq_s (xe_R μ b12 j15) fun b19 => zq_cV (zD107 b19 μ) fun m20 => zD106_21 c2 v1 v2 m20 else zD106_21 c2 v1 v2 μ
def zD106_2   : Nat → Nat → Int32 → xe_Mem → zO
  | 0 => fun _ _ _  => none
  | n + 1 => zD106_2_b   (zD106_2   n)
def zD106  (a1 : Nat) (μ : xe_Mem) : zO := zD106_2 zfu a1 0 μ
theorem zD106_21_ok {μ0 : xe_Mem} {δ : xe_Dy} {d : Nat} (hd : 2 ≤ d) {c2 : Nat → Int32 → xe_Mem → zO} (hc2 : ∀ (v1 : Nat) (v2 : Int32) (μ : xe_Mem), zT zPc μ0 μ → zK zPc μ0 δ d 106 2 [some (.ref 194), some (.ref v1), some (.int v2)] [] μ (c2 v1 v2 μ)) : ∀ (v1 : Nat) (v2 : Int32) (μ : xe_Mem), zT zPc μ0 μ → zK zPc μ0 δ d 106 21 [some (.ref 194), some (.ref v1), some (.int v2)] [] μ (zD106_21  c2 v1 v2 μ) := by
  intro v1 v2 μ hT
  unfold zD106_21
  refine zK_op rfl rfl ?_
  refine zK_op rfl rfl ?_
  exact hc2 v1 (v2 + (1)) μ hT
theorem zD106_2_bok {μ0 : xe_Mem} {δ : xe_Dy} {d : Nat} (hd : 2 ≤ d)  {c2 : Nat → Int32 → xe_Mem → zO} (hc2 : ∀ (v1 : Nat) (v2 : Int32) (μ : xe_Mem), zT zPc μ0 μ → zK zPc μ0 δ d 106 2 [some (.ref 194), some (.ref v1), some (.int v2)] [] μ (c2 v1 v2 μ)) : ∀ (v1 : Nat) (v2 : Int32) (μ : xe_Mem), zT zPc μ0 μ → zK zPc μ0 δ d 106 2 [some (.ref 194), some (.ref v1), some (.int v2)] [] μ (zD106_2_b  c2 v1 v2 μ) := by
  intro v1 v2 μ hT
  unfold zD106_2_b
  refine zK_op rfl rfl ?_
  refine zK_op rfl rfl ?_
  refine zK_o (fun h1 ph1 => ?_)
  refine zK_gI rfl h1 hT ?_
  refine zK_icge rfl (fun _ => ?_) (fun _ => ?_)
  · exact zK_ret0 rfl hT
  refine zK_op rfl rfl ?_
  refine zK_gI rfl rfl hT ?_
  refine zK_op rfl rfl ?_
  refine zK_gRs rfl h1 hT (fun b2 => ?_)
  refine zK_op rfl rfl ?_
  refine zK_a (fun N4 h3 ph3 => ?_)
  refine zK_x (fun j5 h6 h7 h8 => ?_)
  refine zK_aR rfl h3 hT h6 h7 h8 (fun b9 => ?_)
  refine zK_o (fun h10 ph10 => ?_)
  refine zK_gI rfl h10 hT ?_
  refine zK_dv (fun h11 => ?_)
  refine zK_i2d rfl h11 ?_
  refine zK_ifne rfl (fun _ => ?_) (fun _ => ?_)
  · refine zK_op rfl rfl ?_
    refine zK_op rfl rfl ?_
    refine zK_gRs rfl h1 hT (fun b12 => ?_)
    refine zK_op rfl rfl ?_
    refine zK_a (fun N14 h13 ph13 => ?_)
    refine zK_x (fun j15 h16 h17 h18 => ?_)
    refine zK_aR rfl h13 hT h16 h17 h18 (fun b19 => ?_)
    refine zK_cV rfl (as := [.ref 194, .ref b19]) (rest := []) rfl rfl (xe_rcvO (zT_sh hT rfl)) (Nat.le_of_ble_eq_true rfl) (Nat.le_of_ble_eq_true rfl) (by decide) (fun _ => rfl) (by omega) (zD107_ok (by omega) b19 μ hT) (fun m20 T21 => ?_)
    exact zD106_21_ok hd hc2 v1 v2 m20 T21
  exact zD106_21_ok hd hc2 v1 v2 μ hT
theorem zD106_2_ok {μ0 : xe_Mem} {δ : xe_Dy} {d : Nat} (hd : 2 ≤ d)  : ∀ n : Nat, ∀ (v1 : Nat) (v2 : Int32) (μ : xe_Mem), zT zPc μ0 μ → zK zPc μ0 δ d 106 2 [some (.ref 194), some (.ref v1), some (.int v2)] [] μ (zD106_2  n v1 v2 μ) := by
  intro n
  induction n with
  | zero => exact fun _ _ _ _  => fun o μ' h => by cases h
  | succ n ih => exact zD106_2_bok hd   ih
theorem zD106_ok {μ0 : xe_Mem} {δ : xe_Dy} {d : Nat} (hd : 2 ≤ d) (a1 : Nat) (μ : xe_Mem) (hT : zT zPc μ0 μ) : zK zPc μ0 δ d 106 0 (xe_init [.ref 194, .ref a1] (xM_L 106)) [] μ (zD106 a1 μ) := by
  unfold zD106
  show zK zPc μ0 δ d 106 0 [some (.ref 194), some (.ref a1), none] [] μ _
  refine zK_op rfl rfl ?_
  refine zK_op rfl rfl ?_
  exact zD106_2_ok hd zfu a1 0 μ hT
/-! 111 LogicalTimes$Code.push(I)V -/
def zD111  (a1 : Int32) (μ : xe_Mem) : zO := zq_x (xe_I μ 8 4) 60 fun j1 => zq_m (xe_setI μ 11 j1 a1) fun m5 => zq_m (xe_setI m5 8 4 ((xe_I m5 8 4) + 1)) fun m7 => some (.inl none, m7)
theorem zD111_ok {μ0 : xe_Mem} {δ : xe_Dy} {d : Nat} (hd : 0 ≤ d) (a1 : Int32) (μ : xe_Mem) (hT : zT zPc μ0 μ) : zK zPc μ0 δ d 111 0 (xe_init [.ref 8, .int a1] (xM_L 111)) [] μ (zD111 a1 μ) := by
  unfold zD111
  show zK zPc μ0 δ d 111 0 [some (.ref 8), some (.int a1)] [] μ _
  refine zK_op rfl rfl ?_
  refine zK_gRl (b := 11) rfl rfl rfl hT ?_
  refine zK_op rfl rfl ?_
  refine zK_gI rfl rfl hT ?_
  refine zK_op rfl rfl ?_
  refine zK_x (fun j1 h2 h3 h4 => ?_)
  refine zK_sI (a := 11) (g := (fun x => x)) rfl rfl hT h2 h3 h4 rfl (fun m5 T6 => ?_)
  refine zK_op rfl rfl ?_
  refine zK_op rfl rfl ?_
  refine zK_gI rfl rfl T6 ?_
  refine zK_op rfl rfl ?_
  refine zK_op rfl rfl ?_
  refine zK_pI rfl rfl T6 rfl (fun m7 T8 => ?_)
  exact zK_ret0 rfl T8
/-! 112 LogicalTimes$Code.pop()I -/
def zD112   (μ : xe_Mem) : zO := zq_m (xe_setI μ 8 4 ((xe_I μ 8 4) - 1)) fun m1 => zq_x (xe_I m1 8 4) 60 fun j3 => some (.inl (some (.int (xe_I m1 11 j3))), m1)
theorem zD112_ok {μ0 : xe_Mem} {δ : xe_Dy} {d : Nat} (hd : 0 ≤ d) (μ : xe_Mem) (hT : zT zPc μ0 μ) : zK zPc μ0 δ d 112 0 (xe_init [.ref 8] (xM_L 112)) [] μ (zD112 μ) := by
  unfold zD112
  show zK zPc μ0 δ d 112 0 [some (.ref 8)] [] μ _
  refine zK_op rfl rfl ?_
  refine zK_op rfl rfl ?_
  refine zK_gI rfl rfl hT ?_
  refine zK_op rfl rfl ?_
  refine zK_op rfl rfl ?_
  refine zK_pI rfl rfl hT rfl (fun m1 T2 => ?_)
  refine zK_op rfl rfl ?_
  refine zK_gRl (b := 11) rfl rfl rfl T2 ?_
  refine zK_op rfl rfl ?_
  refine zK_gI rfl rfl T2 ?_
  refine zK_x (fun j3 h4 h5 h6 => ?_)
  refine zK_aI rfl rfl T2 h4 h5 h6 ?_
  exact zK_ret1 rfl T2
/-! 113 LogicalTimes$Code.isLastRound()Z -/
def zD113_31 (v1 : Int32) (s1 : Int32) (s2 : Int32) (μ : xe_Mem) : zO := zq_m (xe_setI μ 8 6 (s1 - s2)) fun m15 => zq_z v1 <| some (.inl (some (.int v1)), m15)
def zD113_22 (s0 : Int32) (μ : xe_Mem) : zO := if s0 = 0 then zD113_31 s0 (xe_I μ 8 6) 0 μ else zD113_31 s0 (xe_I μ 8 6) 1 μ
def zD113   (μ : xe_Mem) : zO := zq_x ((xe_I μ 8 6) - 1) 5 fun j1 => zq_x ((xe_I μ 8 6) - 1) 5 fun j5 => zq_m (xe_setI μ 12 j5 ((xe_I μ 12 j1) - 1)) fun m9 => zq_x ((xe_I m9 8 6) - 1) 5 fun j11 => if (xe_I m9 12 j11) = 0 then zD113_22 1 m9 else zD113_22 0 m9
theorem zD113_31_ok {μ0 : xe_Mem} {δ : xe_Dy} {d : Nat} (hd : 0 ≤ d)  : ∀ (v1 : Int32) (s1 : Int32) (s2 : Int32) (l0 : Option Value) (μ : xe_Mem), zT zPc μ0 μ → zK zPc μ0 δ d 113 31 [l0, some (.int v1)] [.int s2, .int s1, .ref 8] μ (zD113_31  v1 s1 s2 μ) := by
  intro v1 s1 s2 l0 μ hT
  unfold zD113_31
  refine zK_op rfl rfl ?_
  refine zK_pI rfl rfl hT rfl (fun m15 T16 => ?_)
  refine zK_op rfl rfl ?_
  exact zK_ret3z rfl T16
theorem zD113_22_ok {μ0 : xe_Mem} {δ : xe_Dy} {d : Nat} (hd : 0 ≤ d)  : ∀ (s0 : Int32) (μ : xe_Mem), zT zPc μ0 μ → zK zPc μ0 δ d 113 22 [some (.ref 8), none] [.int s0] μ (zD113_22  s0 μ) := by
  intro s0 μ hT
  unfold zD113_22
  refine zK_op rfl rfl ?_
  refine zK_op rfl rfl ?_
  refine zK_op rfl rfl ?_
  refine zK_gI rfl rfl hT ?_
  refine zK_op rfl rfl ?_
  refine zK_ifeq rfl (fun _ => ?_) (fun _ => ?_)
  · refine zK_op rfl rfl ?_
    exact zD113_31_ok hd s0 (xe_I μ 8 6) 0 _ μ hT
  refine zK_op rfl rfl ?_
  refine zK_op rfl rfl ?_
  exact zD113_31_ok hd s0 (xe_I μ 8 6) 1 _ μ hT
theorem zD113_ok {μ0 : xe_Mem} {δ : xe_Dy} {d : Nat} (hd : 0 ≤ d) (μ : xe_Mem) (hT : zT zPc μ0 μ) : zK zPc μ0 δ d 113 0 (xe_init [.ref 8] (xM_L 113)) [] μ (zD113 μ) := by
  unfold zD113
  show zK zPc μ0 δ d 113 0 [some (.ref 8), none] [] μ _
  refine zK_op rfl rfl ?_
  refine zK_gRl (b := 12) rfl rfl rfl hT ?_
  refine zK_op rfl rfl ?_
  refine zK_gI rfl rfl hT ?_
  refine zK_op rfl rfl ?_
  refine zK_op rfl rfl ?_
  refine zK_op rfl rfl ?_
  refine zK_x (fun j1 h2 h3 h4 => ?_)
  refine zK_aI rfl rfl hT h2 h3 h4 ?_
  refine zK_op rfl rfl ?_
  refine zK_op rfl rfl ?_
  refine zK_x (fun j5 h6 h7 h8 => ?_)
  refine zK_sI (a := 12) (g := (fun x => x)) rfl rfl hT h6 h7 h8 rfl (fun m9 T10 => ?_)
  refine zK_op rfl rfl ?_
  refine zK_gRl (b := 12) rfl rfl rfl T10 ?_
  refine zK_op rfl rfl ?_
  refine zK_gI rfl rfl T10 ?_
  refine zK_op rfl rfl ?_
  refine zK_op rfl rfl ?_
  refine zK_x (fun j11 h12 h13 h14 => ?_)
  refine zK_aI rfl rfl T10 h12 h13 h14 ?_
  refine zK_ifne rfl (fun _ => ?_) (fun _ => ?_)
  · refine zK_op rfl rfl ?_
    refine zK_op rfl rfl ?_
    exact zD113_22_ok hd 1 m9 T10
  refine zK_op rfl rfl ?_
  exact zD113_22_ok hd 0 m9 T10
/-! 114 LogicalTimes$Code.combined(III)I -/
def zD114_21 (s0 : Int32) (μ : xe_Mem) : zO := some (.inl (some (.int s0)), μ)
def zD114_29 (s0 : Int32) (μ : xe_Mem) : zO := some (.inl (some (.int s0)), μ)
def zD114_36 (s0 : Int32) (μ : xe_Mem) : zO := some (.inl (some (.int s0)), μ)
def zD114_43 (s0 : Int32) (μ : xe_Mem) : zO := some (.inl (some (.int s0)), μ)
def zD114  (a0 : Int32) (a1 : Int32) (a2 : Int32) (μ : xe_Mem) : zO := if a0 = 6 then some (.inl (some (.int (a1 + a2))), μ) else if a0 = 7 then some (.inl (some (.int (a1 - a2))), μ) else if a0 = 8 then some (.inl (some (.int (a1 * a2))), μ) else if a0 = 9 then if a2 = 0 then zD114_21 0 μ else zq_d a2 <| zD114_21 (a1 / a2) μ else if a0 = 10 then if a2 = 0 then zD114_29 0 μ else zq_d a2 <| zD114_29 (a1 - a1 / a2 * a2) μ else if a0 = 11 then if a2 ≤ a1 then zD114_36 0 μ else zD114_36 1 μ else if a1 ≤ a2 then zD114_43 0 μ else zD114_43 1 μ
theorem zD114_21_ok {μ0 : xe_Mem} {δ : xe_Dy} {d : Nat} (hd : 0 ≤ d)  : ∀ (s0 : Int32) (l0 : Option Value) (l1 : Option Value) (l2 : Option Value) (μ : xe_Mem), zT zPc μ0 μ → zK zPc μ0 δ d 114 21 [l0, l1, l2] [.int s0] μ (zD114_21  s0 μ) := by
  intro s0 l0 l1 l2 μ hT
  unfold zD114_21
  exact zK_ret1 rfl hT
theorem zD114_29_ok {μ0 : xe_Mem} {δ : xe_Dy} {d : Nat} (hd : 0 ≤ d)  : ∀ (s0 : Int32) (l0 : Option Value) (l1 : Option Value) (l2 : Option Value) (μ : xe_Mem), zT zPc μ0 μ → zK zPc μ0 δ d 114 29 [l0, l1, l2] [.int s0] μ (zD114_29  s0 μ) := by
  intro s0 l0 l1 l2 μ hT
  unfold zD114_29
  exact zK_ret1 rfl hT
theorem zD114_36_ok {μ0 : xe_Mem} {δ : xe_Dy} {d : Nat} (hd : 0 ≤ d)  : ∀ (s0 : Int32) (l0 : Option Value) (l1 : Option Value) (l2 : Option Value) (μ : xe_Mem), zT zPc μ0 μ → zK zPc μ0 δ d 114 36 [l0, l1, l2] [.int s0] μ (zD114_36  s0 μ) := by
  intro s0 l0 l1 l2 μ hT
  unfold zD114_36
  exact zK_ret1 rfl hT
theorem zD114_43_ok {μ0 : xe_Mem} {δ : xe_Dy} {d : Nat} (hd : 0 ≤ d)  : ∀ (s0 : Int32) (l0 : Option Value) (l1 : Option Value) (l2 : Option Value) (μ : xe_Mem), zT zPc μ0 μ → zK zPc μ0 δ d 114 43 [l0, l1, l2] [.int s0] μ (zD114_43  s0 μ) := by
  intro s0 l0 l1 l2 μ hT
  unfold zD114_43
  exact zK_ret1 rfl hT
theorem zD114_ok {μ0 : xe_Mem} {δ : xe_Dy} {d : Nat} (hd : 0 ≤ d) (a0 : Int32) (a1 : Int32) (a2 : Int32) (μ : xe_Mem) (hT : zT zPc μ0 μ) : zK zPc μ0 δ d 114 0 (xe_init [.int a0, .int a1, .int a2] (xM_L 114)) [] μ (zD114 a0 a1 a2 μ) := by
  unfold zD114
  show zK zPc μ0 δ d 114 0 [some (.int a0), some (.int a1), some (.int a2)] [] μ _
  refine zK_op rfl rfl ?_
  refine zK_ite (fun h1 => ?_) (fun h1 => ?_)
  · rw [h1]
    refine zK_op (k' := 2) rfl (by rfl) ?_
    refine zK_op rfl rfl ?_
    refine zK_op rfl rfl ?_
    refine zK_op rfl rfl ?_
    exact zK_ret1 rfl hT
  refine zK_ite (fun h2 => ?_) (fun h2 => ?_)
  · rw [h2]
    refine zK_op (k' := 6) rfl (by rfl) ?_
    refine zK_op rfl rfl ?_
    refine zK_op rfl rfl ?_
    refine zK_op rfl rfl ?_
    exact zK_ret1 rfl hT
  refine zK_ite (fun h3 => ?_) (fun h3 => ?_)
  · rw [h3]
    refine zK_op (k' := 10) rfl (by rfl) ?_
    refine zK_op rfl rfl ?_
    refine zK_op rfl rfl ?_
    refine zK_op rfl rfl ?_
    exact zK_ret1 rfl hT
  refine zK_ite (fun h4 => ?_) (fun h4 => ?_)
  · rw [h4]
    refine zK_op (k' := 14) rfl (by rfl) ?_
    refine zK_op rfl rfl ?_
    refine zK_ifne rfl (fun _ => ?_) (fun _ => ?_)
    · refine zK_op rfl rfl ?_
      refine zK_op rfl rfl ?_
      exact zD114_21_ok hd 0 _ _ _ μ hT
    refine zK_op rfl rfl ?_
    refine zK_op rfl rfl ?_
    refine zK_dv (fun h5 => ?_)
    refine zK_i2d rfl h5 ?_
    exact zD114_21_ok hd (a1 / a2) _ _ _ μ hT
  refine zK_ite (fun h6 => ?_) (fun h6 => ?_)
  · rw [h6]
    refine zK_op (k' := 22) rfl (by rfl) ?_
    refine zK_op rfl rfl ?_
    refine zK_ifne rfl (fun _ => ?_) (fun _ => ?_)
    · refine zK_op rfl rfl ?_
      refine zK_op rfl rfl ?_
      exact zD114_29_ok hd 0 _ _ _ μ hT
    refine zK_op rfl rfl ?_
    refine zK_op rfl rfl ?_
    refine zK_dv (fun h7 => ?_)
    refine zK_i2d rfl h7 ?_
    exact zD114_29_ok hd (a1 - a1 / a2 * a2) _ _ _ μ hT
  refine zK_ite (fun h8 => ?_) (fun h8 => ?_)
  · rw [h8]
    refine zK_op (k' := 30) rfl (by rfl) ?_
    refine zK_op rfl rfl ?_
    refine zK_op rfl rfl ?_
    refine zK_icge rfl (fun _ => ?_) (fun _ => ?_)
    · refine zK_op rfl rfl ?_
      exact zD114_36_ok hd 0 _ _ _ μ hT
    refine zK_op rfl rfl ?_
    refine zK_op rfl rfl ?_
    exact zD114_36_ok hd 1 _ _ _ μ hT
  refine zK_tswD rfl (by have a0 := zt_ne (6) (v := 6) (by decide) h1; have a1 := zt_ne (7) (v := 7) (by decide) h2; have a2 := zt_ne (8) (v := 8) (by decide) h3; have a3 := zt_ne (9) (v := 9) (by decide) h4; have a4 := zt_ne (10) (v := 10) (by decide) h6; have a5 := zt_ne (11) (v := 11) (by decide) h8; simp only [List.length_cons, List.length_nil]; omega) ?_
  refine zK_op rfl rfl ?_
  refine zK_op rfl rfl ?_
  refine zK_icle rfl (fun _ => ?_) (fun _ => ?_)
  · refine zK_op rfl rfl ?_
    exact zD114_43_ok hd 0 _ _ _ μ hT
  refine zK_op rfl rfl ?_
  refine zK_op rfl rfl ?_
  exact zD114_43_ok hd 1 _ _ _ μ hT
/-! 110 LogicalTimes$Code.follow(II[I[I[I)I -/
def zD110_126 (μ : xe_Mem) : zO := some (.inl (some (.int (xe_I μ 11 0))), μ)
def zD110_123 (c14 : Int32 → Nat → Nat → Int32 → Int32 → xe_Mem → zO) (v2 : Int32) (v3 : Nat) (v5 : Nat) (v6 : Int32) (v7 : Int32) (μ : xe_Mem) : zO := c14 v2 v3 v5 (v6 + (1)) (v7 + (1)) μ
def zD110_93 (c14 : Int32 → Nat → Nat → Int32 → Int32 → xe_Mem → zO) (v2 : Int32) (v3 : Nat) (v5 : Nat) (v7 : Int32) (s0 : Int32) (μ : xe_Mem) : zO := zD110_123 c14 v2 v3 v5 s0 v7 μ
def zD110_108 (c14 : Int32 → Nat → Nat → Int32 → Int32 → xe_Mem → zO) (v2 : Int32) (v3 : Nat) (v5 : Nat) (v7 : Int32) (s0 : Int32) (μ : xe_Mem) : zO := zD110_123 c14 v2 v3 v5 s0 v7 μ
def zD110_110 (c14 : Int32 → Nat → Nat → Int32 → Int32 → xe_Mem → zO) (v2 : Int32) (v3 : Nat) (v5 : Nat) (v6 : Int32) (v7 : Int32) (v8 : Int32) (μ : xe_Mem) : zO := zq_cI (zD112 μ) fun x92 m90 => zq_x v6 3000 fun j93 => zq_cI (zD112 m90) fun x99 m97 => zq_cI (zD114 (xe_I m90 9 j93) x99 x92 m97) fun x102 m100 => zq_cV (zD111 x102 m100) fun m103 => zD110_123 c14 v2 v3 v5 v6 v7 m103
def zD110_14_b (c14 : Int32 → Nat → Nat → Int32 → Int32 → xe_Mem → zO) (v2 : Int32) (v3 : Nat) (v5 : Nat) (v6 : Int32) (v7 : Int32) (μ : xe_Mem) : zO := if 1000000 ≤ v7 then zD110_126 μ else if v2 ≤ v6 then zD110_126 μ else zq_x v6 3000 fun j7 => zq_vI (xe_I μ 10 j7) fun x11 => zq_x v6 3000 fun j12 => zq_vI (xe_I μ 9 j12) fun x16 => if x16 = 1 then zq_cV (zD111 x11 μ) fun m18 => zD110_123 c14 v2 v3 v5 v6 v7 m18 else if x16 = 2 then zq_a v3 0 fun N22 => zq_x x11 N22 fun j23 => zq_cV (zD111 (xe_I μ v3 j23) μ) fun m27 => zD110_123 c14 v2 v3 v5 v6 v7 m27 else if x16 = 3 then zq_x x11 4 fun j30 => zq_cV (zD111 (xe_I μ 201 j30) μ) fun m34 => zD110_123 c14 v2 v3 v5 v6 v7 m34 else if x16 = 4 then zq_x x11 6 fun j37 => zq_cV (zD111 (xe_I μ 13 j37) μ) fun m41 => zD110_123 c14 v2 v3 v5 v6 v7 m41 else if x16 = 5 then zq_cI (zD112 μ) fun x46 m44 => zq_cV (zD111 (-x46) m44) fun m47 => zD110_123 c14 v2 v3 v5 v6 v7 m47 else if x16 = 13 then zq_cI (zD112 μ) fun x52 m50 => zq_a v5 0 fun N54 => zq_x x11 N54 fun j55 => zq_m (xe_setI m50 v5 j55 x52) fun m59 => zD110_123 c14 v2 v3 v5 v6 v7 m59 else if x16 = 14 then zq_cI (zD112 μ) fun x64 m62 => zq_x x11 6 fun j65 => zq_m (xe_setI m62 13 j65 x64) fun m69 => zD110_123 c14 v2 v3 v5 v6 v7 m69 else if x16 = 15 then zq_cI (zD112 μ) fun x74 m72 => if x74 = 0 then zD110_93 c14 v2 v3 v5 v7 (x11 - 1) m72 else zD110_93 c14 v2 v3 v5 v7 v6 m72 else if x16 = 16 then zq_vI (x11 - 1) fun x76 => zD110_123 c14 v2 v3 v5 x76 v7 μ else if x16 = 17 then zq_x (xe_I μ 8 6) 5 fun j78 => zq_m (xe_setI μ 12 j78 x11) fun m82 => zq_m (xe_setI m82 8 6 ((xe_I m82 8 6) + 1)) fun m84 => zD110_123 c14 v2 v3 v5 v6 v7 m84 else if x16 = 18 then zq_cI (zD113 μ) fun x89 m87 => if x89 = 0 then zD110_108 c14 v2 v3 v5 v7 (x11 - 1) m87 else zD110_108 c14 v2 v3 v5 v7 v6 m87 else zD110_110 c14 v2 v3 v5 v6 v7 x11 μ
def zD110_14   : Nat → Int32 → Nat → Nat → Int32 → Int32 → xe_Mem → zO
  | 0 => fun _ _ _ _ _ _  => none
  | n + 1 => zD110_14_b   (zD110_14   n)
def zD110  (a1 : Int32) (a2 : Int32) (a3 : Nat) (a5 : Nat) (μ : xe_Mem) : zO := zq_cV (zD73 13 0 μ) fun m1 => zq_m (xe_setI m1 8 4 0) fun m3 => zq_m (xe_setI m3 8 6 0) fun m5 => zD110_14 zfu a2 a3 a5 a1 0 m5
theorem zt_sw110_29 {x : Int32} {ls : xe_Ls} {r : List Value} {μ : xe_Mem} (h0 : ¬ x = 1) (h1 : ¬ x = 2) (h2 : ¬ x = 3) (h3 : ¬ x = 4) (h4 : ¬ x = 5) (h5 : ¬ x = 13) (h6 : ¬ x = 14) (h7 : ¬ x = 15) (h8 : ¬ x = 16) (h9 : ¬ x = 17) (h10 : ¬ x = 18) : xe_tsw (1) [30, 34, 40, 46, 53, 110, 110, 110, 110, 110, 110, 110, 59, 65, 85, 95, 72, 100] 110 29 ls (.int x :: r) μ = some (110, ls, r, μ) := by
  have a0 := zt_ne (1) (v := 1) (by decide) h0
  have a1 := zt_ne (2) (v := 2) (by decide) h1
  have a2 := zt_ne (3) (v := 3) (by decide) h2
  have a3 := zt_ne (4) (v := 4) (by decide) h3
  have a4 := zt_ne (5) (v := 5) (by decide) h4
  have a5 := zt_ne (13) (v := 13) (by decide) h5
  have a6 := zt_ne (14) (v := 14) (by decide) h6
  have a7 := zt_ne (15) (v := 15) (by decide) h7
  have a8 := zt_ne (16) (v := 16) (by decide) h8
  have a9 := zt_ne (17) (v := 17) (by decide) h9
  have a10 := zt_ne (18) (v := 18) (by decide) h10
  show some ((if x.toInt < 1 ∨ 1 + ([30, 34, 40, 46, 53, 110, 110, 110, 110, 110, 110, 110, 59, 65, 85, 95, 72, 100] : List Nat).length ≤ x.toInt then 110 else ([30, 34, 40, 46, 53, 110, 110, 110, 110, 110, 110, 110, 59, 65, 85, 95, 72, 100] : List Nat).getD (x.toInt - 1).toNat 0), ls, r, μ) = _
  congr 1; congr 1
  split
  · rfl
  · rename_i hr
    simp only [List.length_cons, List.length_nil] at hr
    have : x.toInt = 6 ∨ x.toInt = 7 ∨ x.toInt = 8 ∨ x.toInt = 9 ∨ x.toInt = 10 ∨ x.toInt = 11 ∨ x.toInt = 12 := by omega
    rcases this with h | h | h | h | h | h | h <;> rw [h] <;> rfl
theorem zD110_126_ok {μ0 : xe_Mem} {δ : xe_Dy} {d : Nat} (hd : 1 ≤ d)  : ∀ (l1 : Option Value) (l2 : Option Value) (l3 : Option Value) (l4 : Option Value) (l5 : Option Value) (l6 : Option Value) (l7 : Option Value) (l8 : Option Value) (l9 : Option Value) (μ : xe_Mem), zT zPc μ0 μ → zK zPc μ0 δ d 110 126 [some (.ref 8), l1, l2, l3, l4, l5, l6, l7, l8, l9] [] μ (zD110_126  μ) := by
  intro l1 l2 l3 l4 l5 l6 l7 l8 l9 μ hT
  unfold zD110_126
  refine zK_op rfl rfl ?_
  refine zK_gRl (b := 11) rfl rfl rfl hT ?_
  refine zK_op rfl rfl ?_
  refine zK_aI rfl rfl hT rfl (by decide) (by decide) ?_
  exact zK_ret1 rfl hT
theorem zD110_123_ok {μ0 : xe_Mem} {δ : xe_Dy} {d : Nat} (hd : 1 ≤ d) {c14 : Int32 → Nat → Nat → Int32 → Int32 → xe_Mem → zO} (hc14 : ∀ (v2 : Int32) (v3 : Nat) (v5 : Nat) (v6 : Int32) (v7 : Int32) (l1 : Option Value) (l8 : Option Value) (l9 : Option Value) (μ : xe_Mem), zT zPc μ0 μ → zK zPc μ0 δ d 110 14 [some (.ref 8), l1, some (.int v2), some (.ref v3), some (.ref 201), some (.ref v5), some (.int v6), some (.int v7), l8, l9] [] μ (c14 v2 v3 v5 v6 v7 μ)) : ∀ (v2 : Int32) (v3 : Nat) (v5 : Nat) (v6 : Int32) (v7 : Int32) (l1 : Option Value) (l8 : Option Value) (l9 : Option Value) (μ : xe_Mem), zT zPc μ0 μ → zK zPc μ0 δ d 110 123 [some (.ref 8), l1, some (.int v2), some (.ref v3), some (.ref 201), some (.ref v5), some (.int v6), some (.int v7), l8, l9] [] μ (zD110_123  c14 v2 v3 v5 v6 v7 μ) := by
  intro v2 v3 v5 v6 v7 l1 l8 l9 μ hT
  unfold zD110_123
  refine zK_op rfl rfl ?_
  refine zK_op rfl rfl ?_
  refine zK_op rfl rfl ?_
  exact hc14 v2 v3 v5 (v6 + (1)) (v7 + (1)) _ _ _ μ hT
theorem zD110_93_ok {μ0 : xe_Mem} {δ : xe_Dy} {d : Nat} (hd : 1 ≤ d) {c14 : Int32 → Nat → Nat → Int32 → Int32 → xe_Mem → zO} (hc14 : ∀ (v2 : Int32) (v3 : Nat) (v5 : Nat) (v6 : Int32) (v7 : Int32) (l1 : Option Value) (l8 : Option Value) (l9 : Option Value) (μ : xe_Mem), zT zPc μ0 μ → zK zPc μ0 δ d 110 14 [some (.ref 8), l1, some (.int v2), some (.ref v3), some (.ref 201), some (.ref v5), some (.int v6), some (.int v7), l8, l9] [] μ (c14 v2 v3 v5 v6 v7 μ)) : ∀ (v2 : Int32) (v3 : Nat) (v5 : Nat) (v7 : Int32) (s0 : Int32) (l1 : Option Value) (l6 : Option Value) (l8 : Option Value) (l9 : Option Value) (μ : xe_Mem), zT zPc μ0 μ → zK zPc μ0 δ d 110 93 [some (.ref 8), l1, some (.int v2), some (.ref v3), some (.ref 201), some (.ref v5), l6, some (.int v7), l8, l9] [.int s0] μ (zD110_93  c14 v2 v3 v5 v7 s0 μ) := by
  intro v2 v3 v5 v7 s0 l1 l6 l8 l9 μ hT
  unfold zD110_93
  refine zK_op rfl rfl ?_
  refine zK_op rfl rfl ?_
  exact zD110_123_ok hd hc14 v2 v3 v5 s0 v7 _ _ _ μ hT
theorem zD110_108_ok {μ0 : xe_Mem} {δ : xe_Dy} {d : Nat} (hd : 1 ≤ d) {c14 : Int32 → Nat → Nat → Int32 → Int32 → xe_Mem → zO} (hc14 : ∀ (v2 : Int32) (v3 : Nat) (v5 : Nat) (v6 : Int32) (v7 : Int32) (l1 : Option Value) (l8 : Option Value) (l9 : Option Value) (μ : xe_Mem), zT zPc μ0 μ → zK zPc μ0 δ d 110 14 [some (.ref 8), l1, some (.int v2), some (.ref v3), some (.ref 201), some (.ref v5), some (.int v6), some (.int v7), l8, l9] [] μ (c14 v2 v3 v5 v6 v7 μ)) : ∀ (v2 : Int32) (v3 : Nat) (v5 : Nat) (v7 : Int32) (s0 : Int32) (l1 : Option Value) (l6 : Option Value) (l8 : Option Value) (l9 : Option Value) (μ : xe_Mem), zT zPc μ0 μ → zK zPc μ0 δ d 110 108 [some (.ref 8), l1, some (.int v2), some (.ref v3), some (.ref 201), some (.ref v5), l6, some (.int v7), l8, l9] [.int s0] μ (zD110_108  c14 v2 v3 v5 v7 s0 μ) := by
  intro v2 v3 v5 v7 s0 l1 l6 l8 l9 μ hT
  unfold zD110_108
  refine zK_op rfl rfl ?_
  refine zK_op rfl rfl ?_
  exact zD110_123_ok hd hc14 v2 v3 v5 s0 v7 _ _ _ μ hT
theorem zD110_110_ok {μ0 : xe_Mem} {δ : xe_Dy} {d : Nat} (hd : 1 ≤ d) {c14 : Int32 → Nat → Nat → Int32 → Int32 → xe_Mem → zO} (hc14 : ∀ (v2 : Int32) (v3 : Nat) (v5 : Nat) (v6 : Int32) (v7 : Int32) (l1 : Option Value) (l8 : Option Value) (l9 : Option Value) (μ : xe_Mem), zT zPc μ0 μ → zK zPc μ0 δ d 110 14 [some (.ref 8), l1, some (.int v2), some (.ref v3), some (.ref 201), some (.ref v5), some (.int v6), some (.int v7), l8, l9] [] μ (c14 v2 v3 v5 v6 v7 μ)) : ∀ (v2 : Int32) (v3 : Nat) (v5 : Nat) (v6 : Int32) (v7 : Int32) (v8 : Int32) (l1 : Option Value) (l9 : Option Value) (μ : xe_Mem), zT zPc μ0 μ → zK zPc μ0 δ d 110 110 [some (.ref 8), l1, some (.int v2), some (.ref v3), some (.ref 201), some (.ref v5), some (.int v6), some (.int v7), some (.int v8), l9] [] μ (zD110_110  c14 v2 v3 v5 v6 v7 v8 μ) := by
  intro v2 v3 v5 v6 v7 v8 l1 l9 μ hT
  unfold zD110_110
  refine zK_op rfl rfl ?_
  refine zK_cI rfl (as := [.ref 8]) (rest := []) rfl rfl (xe_rcvO (zT_sh hT rfl)) (Nat.le_of_ble_eq_true rfl) (Nat.le_of_ble_eq_true rfl) (by decide) (fun _ => rfl) (by omega) (zD112_ok (by omega) μ hT) (fun x92 m90 T91 => ?_)
  refine zK_op rfl rfl ?_
  refine zK_op rfl rfl ?_
  refine zK_op rfl rfl ?_
  refine zK_gRl (b := 9) rfl rfl rfl T91 ?_
  refine zK_op rfl rfl ?_
  refine zK_x (fun j93 h94 h95 h96 => ?_)
  refine zK_aI rfl rfl T91 h94 h95 h96 ?_
  refine zK_op rfl rfl ?_
  refine zK_cI rfl (as := [.ref 8]) (rest := [.int (xe_I m90 9 j93), .ref 8]) rfl rfl (xe_rcvO (zT_sh T91 rfl)) (Nat.le_of_ble_eq_true rfl) (Nat.le_of_ble_eq_true rfl) (by decide) (fun _ => rfl) (by omega) (zD112_ok (by omega) m90 T91) (fun x99 m97 T98 => ?_)
  refine zK_op rfl rfl ?_
  refine zK_cI rfl (as := [.int (xe_I m90 9 j93), .int x99, .int x92]) (rest := [.ref 8]) rfl rfl rfl (Nat.le_of_ble_eq_true rfl) (Nat.le_of_ble_eq_true rfl) (by decide) (fun _ => rfl) (by omega) (zD114_ok (by omega) (xe_I m90 9 j93) x99 x92 m97 T98) (fun x102 m100 T101 => ?_)
  refine zK_cV rfl (as := [.ref 8, .int x102]) (rest := []) rfl rfl (xe_rcvO (zT_sh T101 rfl)) (Nat.le_of_ble_eq_true rfl) (Nat.le_of_ble_eq_true rfl) (by decide) (fun _ => rfl) (by omega) (zD111_ok (by omega) x102 m100 T101) (fun m103 T104 => ?_)
  exact zD110_123_ok hd hc14 v2 v3 v5 v6 v7 _ _ _ m103 T104
theorem zD110_14_bok {μ0 : xe_Mem} {δ : xe_Dy} {d : Nat} (hd : 1 ≤ d)  {c14 : Int32 → Nat → Nat → Int32 → Int32 → xe_Mem → zO} (hc14 : ∀ (v2 : Int32) (v3 : Nat) (v5 : Nat) (v6 : Int32) (v7 : Int32) (l1 : Option Value) (l8 : Option Value) (l9 : Option Value) (μ : xe_Mem), zT zPc μ0 μ → zK zPc μ0 δ d 110 14 [some (.ref 8), l1, some (.int v2), some (.ref v3), some (.ref 201), some (.ref v5), some (.int v6), some (.int v7), l8, l9] [] μ (c14 v2 v3 v5 v6 v7 μ)) : ∀ (v2 : Int32) (v3 : Nat) (v5 : Nat) (v6 : Int32) (v7 : Int32) (l1 : Option Value) (l8 : Option Value) (l9 : Option Value) (μ : xe_Mem), zT zPc μ0 μ → zK zPc μ0 δ d 110 14 [some (.ref 8), l1, some (.int v2), some (.ref v3), some (.ref 201), some (.ref v5), some (.int v6), some (.int v7), l8, l9] [] μ (zD110_14_b  c14 v2 v3 v5 v6 v7 μ) := by
  intro v2 v3 v5 v6 v7 l1 l8 l9 μ hT
  unfold zD110_14_b
  refine zK_op rfl rfl ?_
  refine zK_op rfl rfl ?_
  refine zK_icge rfl (fun _ => ?_) (fun _ => ?_)
  · exact zD110_126_ok hd _ _ _ _ _ _ _ _ _ μ hT
  refine zK_op rfl rfl ?_
  refine zK_op rfl rfl ?_
  refine zK_icge rfl (fun _ => ?_) (fun _ => ?_)
  · exact zD110_126_ok hd _ _ _ _ _ _ _ _ _ μ hT
  refine zK_op rfl rfl ?_
  refine zK_gRl (b := 10) rfl rfl rfl hT ?_
  refine zK_op rfl rfl ?_
  refine zK_x (fun j7 h8 h9 h10 => ?_)
  refine zK_aI rfl rfl hT h8 h9 h10 ?_
  refine zK_vI (fun x11 => ?_)
  refine zK_op rfl rfl ?_
  refine zK_op rfl rfl ?_
  refine zK_gRl (b := 9) rfl rfl rfl hT ?_
  refine zK_op rfl rfl ?_
  refine zK_x (fun j12 h13 h14 h15 => ?_)
  refine zK_aI rfl rfl hT h13 h14 h15 ?_
  refine zK_vI (fun x16 => ?_)
  refine zK_ite (fun h17 => ?_) (fun h17 => ?_)
  · rw [h17]
    refine zK_op (k' := 30) rfl (by rfl) ?_
    refine zK_op rfl rfl ?_
    refine zK_op rfl rfl ?_
    refine zK_cV rfl (as := [.ref 8, .int x11]) (rest := []) rfl rfl (xe_rcvO (zT_sh hT rfl)) (Nat.le_of_ble_eq_true rfl) (Nat.le_of_ble_eq_true rfl) (by decide) (fun _ => rfl) (by omega) (zD111_ok (by omega) x11 μ hT) (fun m18 T19 => ?_)
    refine zK_op rfl rfl ?_
    exact zD110_123_ok hd hc14 v2 v3 v5 v6 v7 _ _ _ m18 T19
  refine zK_ite (fun h20 => ?_) (fun h20 => ?_)
  · rw [h20]
    refine zK_op (k' := 34) rfl (by rfl) ?_
    refine zK_op rfl rfl ?_
    refine zK_op rfl rfl ?_
    refine zK_op rfl rfl ?_
    refine zK_a (fun N22 h21 ph21 => ?_)
    refine zK_x (fun j23 h24 h25 h26 => ?_)
    refine zK_aI rfl h21 hT h24 h25 h26 ?_
    refine zK_cV rfl (as := [.ref 8, .int (xe_I μ v3 j23)]) (rest := []) rfl rfl (xe_rcvO (zT_sh hT rfl)) (Nat.le_of_ble_eq_true rfl) (Nat.le_of_ble_eq_true rfl) (by decide) (fun _ => rfl) (by omega) (zD111_ok (by omega) (xe_I μ v3 j23) μ hT) (fun m27 T28 => ?_)
    refine zK_op rfl rfl ?_
    exact zD110_123_ok hd hc14 v2 v3 v5 v6 v7 _ _ _ m27 T28
  refine zK_ite (fun h29 => ?_) (fun h29 => ?_)
  · rw [h29]
    refine zK_op (k' := 40) rfl (by rfl) ?_
    refine zK_op rfl rfl ?_
    refine zK_op rfl rfl ?_
    refine zK_op rfl rfl ?_
    refine zK_x (fun j30 h31 h32 h33 => ?_)
    refine zK_aI rfl rfl hT h31 h32 h33 ?_
    refine zK_cV rfl (as := [.ref 8, .int (xe_I μ 201 j30)]) (rest := []) rfl rfl (xe_rcvO (zT_sh hT rfl)) (Nat.le_of_ble_eq_true rfl) (Nat.le_of_ble_eq_true rfl) (by decide) (fun _ => rfl) (by omega) (zD111_ok (by omega) (xe_I μ 201 j30) μ hT) (fun m34 T35 => ?_)
    refine zK_op rfl rfl ?_
    exact zD110_123_ok hd hc14 v2 v3 v5 v6 v7 _ _ _ m34 T35
  refine zK_ite (fun h36 => ?_) (fun h36 => ?_)
  · rw [h36]
    refine zK_op (k' := 46) rfl (by rfl) ?_
    refine zK_op rfl rfl ?_
    refine zK_op rfl rfl ?_
    refine zK_gRl (b := 13) rfl rfl rfl hT ?_
    refine zK_op rfl rfl ?_
    refine zK_x (fun j37 h38 h39 h40 => ?_)
    refine zK_aI rfl rfl hT h38 h39 h40 ?_
    refine zK_cV rfl (as := [.ref 8, .int (xe_I μ 13 j37)]) (rest := []) rfl rfl (xe_rcvO (zT_sh hT rfl)) (Nat.le_of_ble_eq_true rfl) (Nat.le_of_ble_eq_true rfl) (by decide) (fun _ => rfl) (by omega) (zD111_ok (by omega) (xe_I μ 13 j37) μ hT) (fun m41 T42 => ?_)
    refine zK_op rfl rfl ?_
    exact zD110_123_ok hd hc14 v2 v3 v5 v6 v7 _ _ _ m41 T42
  refine zK_ite (fun h43 => ?_) (fun h43 => ?_)
  · rw [h43]
    refine zK_op (k' := 53) rfl (by rfl) ?_
    refine zK_op rfl rfl ?_
    refine zK_op rfl rfl ?_
    refine zK_cI rfl (as := [.ref 8]) (rest := [.ref 8]) rfl rfl (xe_rcvO (zT_sh hT rfl)) (Nat.le_of_ble_eq_true rfl) (Nat.le_of_ble_eq_true rfl) (by decide) (fun _ => rfl) (by omega) (zD112_ok (by omega) μ hT) (fun x46 m44 T45 => ?_)
    refine zK_op rfl rfl ?_
    refine zK_cV rfl (as := [.ref 8, .int (-x46)]) (rest := []) rfl rfl (xe_rcvO (zT_sh T45 rfl)) (Nat.le_of_ble_eq_true rfl) (Nat.le_of_ble_eq_true rfl) (by decide) (fun _ => rfl) (by omega) (zD111_ok (by omega) (-x46) m44 T45) (fun m47 T48 => ?_)
    refine zK_op rfl rfl ?_
    exact zD110_123_ok hd hc14 v2 v3 v5 v6 v7 _ _ _ m47 T48
  refine zK_ite (fun h49 => ?_) (fun h49 => ?_)
  · rw [h49]
    refine zK_op (k' := 59) rfl (by rfl) ?_
    refine zK_op rfl rfl ?_
    refine zK_op rfl rfl ?_
    refine zK_op rfl rfl ?_
    refine zK_cI rfl (as := [.ref 8]) (rest := [.int x11, .ref v5]) rfl rfl (xe_rcvO (zT_sh hT rfl)) (Nat.le_of_ble_eq_true rfl) (Nat.le_of_ble_eq_true rfl) (by decide) (fun _ => rfl) (by omega) (zD112_ok (by omega) μ hT) (fun x52 m50 T51 => ?_)
    refine zK_a (fun N54 h53 ph53 => ?_)
    refine zK_x (fun j55 h56 h57 h58 => ?_)
    refine zK_sI (a := v5) (g := (fun x => x)) rfl h53 T51 h56 h57 h58 ph53 (fun m59 T60 => ?_)
    refine zK_op rfl rfl ?_
    exact zD110_123_ok hd hc14 v2 v3 v5 v6 v7 _ _ _ m59 T60
  refine zK_ite (fun h61 => ?_) (fun h61 => ?_)
  · rw [h61]
    refine zK_op (k' := 65) rfl (by rfl) ?_
    refine zK_op rfl rfl ?_
    refine zK_gRl (b := 13) rfl rfl rfl hT ?_
    refine zK_op rfl rfl ?_
    refine zK_op rfl rfl ?_
    refine zK_cI rfl (as := [.ref 8]) (rest := [.int x11, .ref 13]) rfl rfl (xe_rcvO (zT_sh hT rfl)) (Nat.le_of_ble_eq_true rfl) (Nat.le_of_ble_eq_true rfl) (by decide) (fun _ => rfl) (by omega) (zD112_ok (by omega) μ hT) (fun x64 m62 T63 => ?_)
    refine zK_x (fun j65 h66 h67 h68 => ?_)
    refine zK_sI (a := 13) (g := (fun x => x)) rfl rfl T63 h66 h67 h68 rfl (fun m69 T70 => ?_)
    refine zK_op rfl rfl ?_
    exact zD110_123_ok hd hc14 v2 v3 v5 v6 v7 _ _ _ m69 T70
  refine zK_ite (fun h71 => ?_) (fun h71 => ?_)
  · rw [h71]
    refine zK_op (k' := 85) rfl (by rfl) ?_
    refine zK_op rfl rfl ?_
    refine zK_cI rfl (as := [.ref 8]) (rest := []) rfl rfl (xe_rcvO (zT_sh hT rfl)) (Nat.le_of_ble_eq_true rfl) (Nat.le_of_ble_eq_true rfl) (by decide) (fun _ => rfl) (by omega) (zD112_ok (by omega) μ hT) (fun x74 m72 T73 => ?_)
    refine zK_ifne rfl (fun _ => ?_) (fun _ => ?_)
    · refine zK_op rfl rfl ?_
      refine zK_op rfl rfl ?_
      refine zK_op rfl rfl ?_
      refine zK_op rfl rfl ?_
      exact zD110_93_ok hd hc14 v2 v3 v5 v7 (x11 - 1) _ _ _ _ m72 T73
    refine zK_op rfl rfl ?_
    exact zD110_93_ok hd hc14 v2 v3 v5 v7 v6 _ _ _ _ m72 T73
  refine zK_ite (fun h75 => ?_) (fun h75 => ?_)
  · rw [h75]
    refine zK_op (k' := 95) rfl (by rfl) ?_
    refine zK_op rfl rfl ?_
    refine zK_op rfl rfl ?_
    refine zK_op rfl rfl ?_
    refine zK_vI (fun x76 => ?_)
    refine zK_op rfl rfl ?_
    refine zK_op rfl rfl ?_
    exact zD110_123_ok hd hc14 v2 v3 v5 x76 v7 _ _ _ μ hT
  refine zK_ite (fun h77 => ?_) (fun h77 => ?_)
  · rw [h77]
    refine zK_op (k' := 72) rfl (by rfl) ?_
    refine zK_op rfl rfl ?_
    refine zK_gRl (b := 12) rfl rfl rfl hT ?_
    refine zK_op rfl rfl ?_
    refine zK_gI rfl rfl hT ?_
    refine zK_op rfl rfl ?_
    refine zK_x (fun j78 h79 h80 h81 => ?_)
    refine zK_sI (a := 12) (g := (fun x => x)) rfl rfl hT h79 h80 h81 rfl (fun m82 T83 => ?_)
    refine zK_op rfl rfl ?_
    refine zK_op rfl rfl ?_
    refine zK_gI rfl rfl T83 ?_
    refine zK_op rfl rfl ?_
    refine zK_op rfl rfl ?_
    refine zK_pI rfl rfl T83 rfl (fun m84 T85 => ?_)
    refine zK_op rfl rfl ?_
    exact zD110_123_ok hd hc14 v2 v3 v5 v6 v7 _ _ _ m84 T85
  refine zK_ite (fun h86 => ?_) (fun h86 => ?_)
  · rw [h86]
    refine zK_op (k' := 100) rfl (by rfl) ?_
    refine zK_op rfl rfl ?_
    refine zK_cI rfl (as := [.ref 8]) (rest := []) rfl rfl (xe_rcvO (zT_sh hT rfl)) (Nat.le_of_ble_eq_true rfl) (Nat.le_of_ble_eq_true rfl) (by decide) (fun _ => rfl) (by omega) (zD113_ok (by omega) μ hT) (fun x89 m87 T88 => ?_)
    refine zK_ifeq rfl (fun _ => ?_) (fun _ => ?_)
    · refine zK_op rfl rfl ?_
      refine zK_op rfl rfl ?_
      refine zK_op rfl rfl ?_
      exact zD110_108_ok hd hc14 v2 v3 v5 v7 (x11 - 1) _ _ _ _ m87 T88
    refine zK_op rfl rfl ?_
    refine zK_op rfl rfl ?_
    exact zD110_108_ok hd hc14 v2 v3 v5 v7 v6 _ _ _ _ m87 T88
  refine zK_op (k' := 110) rfl (zt_sw110_29 h17 h20 h29 h36 h43 h49 h61 h71 h75 h77 h86) ?_
  exact zD110_110_ok hd hc14 v2 v3 v5 v6 v7 x11 _ _ μ hT
theorem zD110_14_ok {μ0 : xe_Mem} {δ : xe_Dy} {d : Nat} (hd : 1 ≤ d)  : ∀ n : Nat, ∀ (v2 : Int32) (v3 : Nat) (v5 : Nat) (v6 : Int32) (v7 : Int32) (l1 : Option Value) (l8 : Option Value) (l9 : Option Value) (μ : xe_Mem), zT zPc μ0 μ → zK zPc μ0 δ d 110 14 [some (.ref 8), l1, some (.int v2), some (.ref v3), some (.ref 201), some (.ref v5), some (.int v6), some (.int v7), l8, l9] [] μ (zD110_14  n v2 v3 v5 v6 v7 μ) := by
  intro n
  induction n with
  | zero => exact fun _ _ _ _ _ _ _ _ _ _  => fun o μ' h => by cases h
  | succ n ih => exact zD110_14_bok hd   ih
theorem zD110_ok {μ0 : xe_Mem} {δ : xe_Dy} {d : Nat} (hd : 1 ≤ d) (a1 : Int32) (a2 : Int32) (a3 : Nat) (a5 : Nat) (μ : xe_Mem) (hT : zT zPc μ0 μ) : zK zPc μ0 δ d 110 0 (xe_init [.ref 8, .int a1, .int a2, .ref a3, .ref 201, .ref a5] (xM_L 110)) [] μ (zD110 a1 a2 a3 a5 μ) := by
  unfold zD110
  show zK zPc μ0 δ d 110 0 [some (.ref 8), some (.int a1), some (.int a2), some (.ref a3), some (.ref 201), some (.ref a5), none, none, none, none] [] μ _
  refine zK_op rfl rfl ?_
  refine zK_gRl (b := 13) rfl rfl rfl hT ?_
  refine zK_op rfl rfl ?_
  refine zK_cV rfl (as := [.ref 13, .int 0]) (rest := []) rfl rfl rfl (Nat.le_of_ble_eq_true rfl) (Nat.le_of_ble_eq_true rfl) (by decide) (fun _ => rfl) (by omega) (zD73_ok (by omega) 13 0 μ hT) (fun m1 T2 => ?_)
  refine zK_op rfl rfl ?_
  refine zK_op rfl rfl ?_
  refine zK_pI rfl rfl T2 rfl (fun m3 T4 => ?_)
  refine zK_op rfl rfl ?_
  refine zK_op rfl rfl ?_
  refine zK_pI rfl rfl T4 rfl (fun m5 T6 => ?_)
  refine zK_op rfl rfl ?_
  refine zK_op rfl rfl ?_
  refine zK_op rfl rfl ?_
  refine zK_op rfl rfl ?_
  exact zD110_14_ok hd zfu a2 a3 a5 a1 0 _ _ _ m5 T6
/-! 109 LogicalTimes$Runner.changeMode(LLogicalTimes$Mode;)V -/
def zD109_56 (μ : xe_Mem) : zO := some (.inl none, μ)
def zD109_46 (c2 : Nat → Int32 → xe_Mem → zO) (v1 : Nat) (v2 : Int32) (μ : xe_Mem) : zO := c2 v1 (v2 + (1)) μ
def zD109_2_b (c2 : Nat → Int32 → xe_Mem → zO) (v1 : Nat) (v2 : Int32) (μ : xe_Mem) : zO := zq_o v1 2 <| if (xe_I μ v1 6) ≤ v2 then if (xe_I μ 194 3) = (xe_I μ v1 1) then zq_m (xe_setI μ 194 3 0) fun m2 => zD109_56 m2 else zD109_56 μ else zq_s (xe_R μ v1 5) fun b4 => zq_a b4 6 fun N6 => zq_x v2 N6 fun j7 => zq_s (xe_R μ b4 j7) fun b11 => zq_o b11 1 <| zq_d (xe_I μ b11 0) <| if ((xe_I μ 194 3) - (xe_I μ 194 3) / (xe_I μ b11 0) * (xe_I μ b11 0)) = 0 then zq_cI (zD110 (xe_I μ b11 1) (xe_I μ b11 2) 195 195 μ) fun x16 m14 => if x16 = 0 then zD109_46 c2 v1 v2 m14 else zq_m (xe_setI m14 194 2 (xe_I m14 b11 4)) fun m17 => zq_m (xe_setI m17 194 3 0) fun m19 => zq_m (xe_setI m19 194 4 ((xe_I m19 194 4) + 1)) fun m21 => some (.inl none, m21) else zD109_46 c2 v1 v2 μ
def zD109_2   : Nat → Nat → Int32 → xe_Mem → zO
  | 0 => fun _ _ _  => none
  | n + 1 => zD109_2_b   (zD109_2   n)
def zD109  (a1 : Nat) (μ : xe_Mem) : zO := zD109_2 zfu a1 0 μ
theorem zD109_56_ok {μ0 : xe_Mem} {δ : xe_Dy} {d : Nat} (hd : 2 ≤ d)  : ∀ (l0 : Option Value) (l1 : Option Value) (l2 : Option Value) (l3 : Option Value) (μ : xe_Mem), zT zPc μ0 μ → zK zPc μ0 δ d 109 56 [l0, l1, l2, l3] [] μ (zD109_56  μ) := by
  intro l0 l1 l2 l3 μ hT
  unfold zD109_56
  exact zK_ret0 rfl hT
theorem zD109_46_ok {μ0 : xe_Mem} {δ : xe_Dy} {d : Nat} (hd : 2 ≤ d) {c2 : Nat → Int32 → xe_Mem → zO} (hc2 : ∀ (v1 : Nat) (v2 : Int32) (l3 : Option Value) (μ : xe_Mem), zT zPc μ0 μ → zK zPc μ0 δ d 109 2 [some (.ref 194), some (.ref v1), some (.int v2), l3] [] μ (c2 v1 v2 μ)) : ∀ (v1 : Nat) (v2 : Int32) (l3 : Option Value) (μ : xe_Mem), zT zPc μ0 μ → zK zPc μ0 δ d 109 46 [some (.ref 194), some (.ref v1), some (.int v2), l3] [] μ (zD109_46  c2 v1 v2 μ) := by
  intro v1 v2 l3 μ hT
  unfold zD109_46
  refine zK_op rfl rfl ?_
  refine zK_op rfl rfl ?_
  exact hc2 v1 (v2 + (1)) _ μ hT
theorem zD109_2_bok {μ0 : xe_Mem} {δ : xe_Dy} {d : Nat} (hd : 2 ≤ d)  {c2 : Nat → Int32 → xe_Mem → zO} (hc2 : ∀ (v1 : Nat) (v2 : Int32) (l3 : Option Value) (μ : xe_Mem), zT zPc μ0 μ → zK zPc μ0 δ d 109 2 [some (.ref 194), some (.ref v1), some (.int v2), l3] [] μ (c2 v1 v2 μ)) : ∀ (v1 : Nat) (v2 : Int32) (l3 : Option Value) (μ : xe_Mem), zT zPc μ0 μ → zK zPc μ0 δ d 109 2 [some (.ref 194), some (.ref v1), some (.int v2), l3] [] μ (zD109_2_b  c2 v1 v2 μ) := by
  intro v1 v2 l3 μ hT
  unfold zD109_2_b
  refine zK_op rfl rfl ?_
  refine zK_op rfl rfl ?_
  refine zK_o (fun h1 ph1 => ?_)
  refine zK_gI rfl h1 hT ?_
  refine zK_icge rfl (fun _ => ?_) (fun _ => ?_)
  · refine zK_op rfl rfl ?_
    refine zK_gI rfl rfl hT ?_
    refine zK_op rfl rfl ?_
    refine zK_gI rfl h1 hT ?_
    refine zK_icne rfl (fun _ => ?_) (fun _ => ?_)
    · refine zK_op rfl rfl ?_
      refine zK_op rfl rfl ?_
      refine zK_pI rfl rfl hT rfl (fun m2 T3 => ?_)
      exact zD109_56_ok hd _ _ _ _ m2 T3
    exact zD109_56_ok hd _ _ _ _ μ hT
  refine zK_op rfl rfl ?_
  refine zK_gRs rfl h1 hT (fun b4 => ?_)
  refine zK_op rfl rfl ?_
  refine zK_a (fun N6 h5 ph5 => ?_)
  refine zK_x (fun j7 h8 h9 h10 => ?_)
  refine zK_aR rfl h5 hT h8 h9 h10 (fun b11 => ?_)
  refine zK_op rfl rfl ?_
  refine zK_op rfl rfl ?_
  refine zK_gI rfl rfl hT ?_
  refine zK_op rfl rfl ?_
  refine zK_o (fun h12 ph12 => ?_)
  refine zK_gI rfl h12 hT ?_
  refine zK_dv (fun h13 => ?_)
  refine zK_i2d rfl h13 ?_
  refine zK_ifne rfl (fun _ => ?_) (fun _ => ?_)
  · refine zK_op rfl rfl ?_
    refine zK_gRl (b := 7) rfl rfl rfl hT ?_
    refine zK_gRl (b := 8) rfl rfl rfl hT ?_
    refine zK_op rfl rfl ?_
    refine zK_gI rfl h12 hT ?_
    refine zK_op rfl rfl ?_
    refine zK_gI rfl h12 hT ?_
    refine zK_op rfl rfl ?_
    refine zK_gRl (b := 195) rfl rfl rfl hT ?_
    refine zK_op rfl rfl ?_
    refine zK_gRl (b := 201) rfl rfl rfl hT ?_
    refine zK_op rfl rfl ?_
    refine zK_gRl (b := 195) rfl rfl rfl hT ?_
    refine zK_cI rfl (as := [.ref 8, .int (xe_I μ b11 1), .int (xe_I μ b11 2), .ref 195, .ref 201, .ref 195]) (rest := []) rfl rfl (xe_rcvO (zT_sh hT rfl)) (Nat.le_of_ble_eq_true rfl) (Nat.le_of_ble_eq_true rfl) (by decide) (fun _ => rfl) (by omega) (zD110_ok (by omega) (xe_I μ b11 1) (xe_I μ b11 2) 195 195 μ hT) (fun x16 m14 T15 => ?_)
    refine zK_ifeq rfl (fun _ => ?_) (fun _ => ?_)
    · exact zD109_46_ok hd hc2 v1 v2 _ m14 T15
    refine zK_op rfl rfl ?_
    refine zK_op rfl rfl ?_
    refine zK_gI rfl h12 T15 ?_
    refine zK_pI rfl rfl T15 rfl (fun m17 T18 => ?_)
    refine zK_op rfl rfl ?_
    refine zK_op rfl rfl ?_
    refine zK_pI rfl rfl T18 rfl (fun m19 T20 => ?_)
    refine zK_op rfl rfl ?_
    refine zK_op rfl rfl ?_
    refine zK_gI rfl rfl T20 ?_
    refine zK_op rfl rfl ?_
    refine zK_op rfl rfl ?_
    refine zK_pI rfl rfl T20 rfl (fun m21 T22 => ?_)
    exact zK_ret0 rfl T22
  exact zD109_46_ok hd hc2 v1 v2 _ μ hT
theorem zD109_2_ok {μ0 : xe_Mem} {δ : xe_Dy} {d : Nat} (hd : 2 ≤ d)  : ∀ n : Nat, ∀ (v1 : Nat) (v2 : Int32) (l3 : Option Value) (μ : xe_Mem), zT zPc μ0 μ → zK zPc μ0 δ d 109 2 [some (.ref 194), some (.ref v1), some (.int v2), l3] [] μ (zD109_2  n v1 v2 μ) := by
  intro n
  induction n with
  | zero => exact fun _ _ _ _ _  => fun o μ' h => by cases h
  | succ n ih => exact zD109_2_bok hd   ih
theorem zD109_ok {μ0 : xe_Mem} {δ : xe_Dy} {d : Nat} (hd : 2 ≤ d) (a1 : Nat) (μ : xe_Mem) (hT : zT zPc μ0 μ) : zK zPc μ0 δ d 109 0 (xe_init [.ref 194, .ref a1] (xM_L 109)) [] μ (zD109 a1 μ) := by
  unfold zD109
  show zK zPc μ0 δ d 109 0 [some (.ref 194), some (.ref a1), none, none] [] μ _
  refine zK_op rfl rfl ?_
  refine zK_op rfl rfl ?_
  exact zD109_2_ok hd zfu a1 0 _ μ hT
/-! 117 LogicalTimes$Runner.compute(LLogicalTimes$Task;[I[I)V -/
def zD117  (a1 : Nat) (a2 : Nat) (a3 : Nat) (μ : xe_Mem) : zO := zq_a a3 0 fun N4 => zq_acp 0 (fun _ => true) a2 0 a3 0 12 μ fun m1 => zq_o a1 8 <| zq_cI (zD110 (xe_I m1 a1 8) (xe_I m1 a1 9) a2 a3 m1) fun x8 m6 => some (.inl none, m6)
theorem zD117_ok {μ0 : xe_Mem} {δ : xe_Dy} {d : Nat} (hd : 2 ≤ d) (a1 : Nat) (a2 : Nat) (a3 : Nat) (μ : xe_Mem) (hT : zT zPc μ0 μ) : zK zPc μ0 δ d 117 0 (xe_init [.ref 194, .ref a1, .ref a2, .ref a3] (xM_L 117)) [] μ (zD117 a1 a2 a3 μ) := by
  unfold zD117
  show zK zPc μ0 δ d 117 0 [some (.ref 194), some (.ref a1), some (.ref a2), some (.ref a3)] [] μ _
  refine zK_op rfl rfl ?_
  refine zK_op rfl rfl ?_
  refine zK_op rfl rfl ?_
  refine zK_op rfl rfl ?_
  refine zK_op rfl rfl ?_
  refine zK_a (fun N4 h3 ph3 => ?_)
  refine zK_acp rfl hT ph3 (fun m1 T2 => ?_)
  refine zK_op rfl rfl ?_
  refine zK_gRl (b := 7) rfl rfl rfl T2 ?_
  refine zK_gRl (b := 8) rfl rfl rfl T2 ?_
  refine zK_op rfl rfl ?_
  refine zK_o (fun h5 ph5 => ?_)
  refine zK_gI rfl h5 T2 ?_
  refine zK_op rfl rfl ?_
  refine zK_gI rfl h5 T2 ?_
  refine zK_op rfl rfl ?_
  refine zK_op rfl rfl ?_
  refine zK_gRl (b := 201) rfl rfl rfl T2 ?_
  refine zK_op rfl rfl ?_
  refine zK_cI rfl (as := [.ref 8, .int (xe_I m1 a1 8), .int (xe_I m1 a1 9), .ref a2, .ref 201, .ref a3]) (rest := []) rfl rfl (xe_rcvO (zT_sh T2 rfl)) (Nat.le_of_ble_eq_true rfl) (Nat.le_of_ble_eq_true rfl) (by decide) (fun _ => rfl) (by omega) (zD110_ok (by omega) (xe_I m1 a1 8) (xe_I m1 a1 9) a2 a3 m1 T2) (fun x8 m6 T7 => ?_)
  refine zK_op rfl rfl ?_
  exact zK_ret0 rfl T7
