/-! methods as functions (by wip/whole/gen/dec.py) -/
/-! 116 LogicalTimes$Runner.beginRun(LLogicalTimes$Task;)V -/
def zD116_48 (s1 : Int32) (s2 : Int32) (μ : xe_Mem) : zO := zq_m (xe_setI μ 194 8 (s1 + s2)) fun m22 => some (.inl none, m22)
def zD116_30 (v1 : Nat) (v2 : Nat) (s0 : Nat) (s1 : Int32) (μ : xe_Mem) : zO := zq_o v1 8 <| zq_o s0 6 <| zq_cV (zD75 s0 s1 ((xe_I μ 194 3) + (xe_I μ v1 3)) μ) fun m17 => zq_o v2 6 <| zq_m (xe_setI m17 v2 2 ((-1))) fun m20 => if (xe_I m20 v2 0) = 0 then zD116_48 (xe_I m20 194 8) 1 m20 else zD116_48 (xe_I m20 194 8) 0 m20
def zD116  (a1 : Nat) (μ : xe_Mem) : zO := zq_o a1 8 <| zq_s (xe_R μ a1 14) fun b2 => zq_o b2 6 <| zq_s (xe_R μ b2 5) fun b4 => zq_cV (zD117 a1 195 b4 μ) fun m5 => zq_x (xe_I m5 a1 2) 4 fun j7 => zq_s (xe_R m5 196 j7) fun b11 => zq_s (xe_R m5 b2 6) fun b12 => zq_cV (zD117 a1 b11 b12 m5) fun m13 => if (xe_I m13 b2 2) = ((-1)) then zD116_30 a1 b2 b2 (xe_I m13 a1 4) m13 else zD116_30 a1 b2 b2 (xe_I m13 b2 2) m13
theorem zD116_48_ok {μ0 : xe_Mem} {δ : xe_Dy} {d : Nat} (hd : 3 ≤ d)  : ∀ (s1 : Int32) (s2 : Int32) (l0 : Option Value) (l1 : Option Value) (l2 : Option Value) (μ : xe_Mem), zT zPc μ0 μ → zK zPc μ0 δ d 116 48 [l0, l1, l2] [.int s2, .int s1, .ref 194] μ (zD116_48  s1 s2 μ) := by
  intro s1 s2 l0 l1 l2 μ hT
  unfold zD116_48
  refine zK_op rfl rfl ?_
  refine zK_pI rfl rfl hT rfl (fun m22 T23 => ?_)
  exact zK_ret0 rfl T23
theorem zD116_30_ok {μ0 : xe_Mem} {δ : xe_Dy} {d : Nat} (hd : 3 ≤ d)  : ∀ (v1 : Nat) (v2 : Nat) (s0 : Nat) (s1 : Int32) (μ : xe_Mem), zT zPc μ0 μ → zK zPc μ0 δ d 116 30 [some (.ref 194), some (.ref v1), some (.ref v2)] [.int s1, .ref s0] μ (zD116_30  v1 v2 s0 s1 μ) := by
  intro v1 v2 s0 s1 μ hT
  unfold zD116_30
  refine zK_op rfl rfl ?_
  refine zK_gI rfl rfl hT ?_
  refine zK_op rfl rfl ?_
  refine zK_o (fun h15 ph15 => ?_)
  refine zK_gI rfl h15 hT ?_
  refine zK_op rfl rfl ?_
  refine zK_o (fun h16 ph16 => ?_)
  refine zK_cV rfl (as := [.ref s0, .int s1, .int ((xe_I μ 194 3) + (xe_I μ v1 3))]) (rest := []) rfl rfl (xe_rcvO (zT_sh hT h16)) (Nat.le_of_ble_eq_true rfl) (Nat.le_of_ble_eq_true rfl) (by decide) (fun _ => rfl) (by omega) (zD75_ok (by omega) s0 s1 ((xe_I μ 194 3) + (xe_I μ v1 3)) μ hT) (fun m17 T18 => ?_)
  refine zK_op rfl rfl ?_
  refine zK_op rfl rfl ?_
  refine zK_o (fun h19 ph19 => ?_)
  refine zK_pI rfl h19 T18 ph19 (fun m20 T21 => ?_)
  refine zK_op rfl rfl ?_
  refine zK_op rfl rfl ?_
  refine zK_gI rfl rfl T21 ?_
  refine zK_op rfl rfl ?_
  refine zK_gI rfl h19 T21 ?_
  refine zK_ifne rfl (fun _ => ?_) (fun _ => ?_)
  · refine zK_op rfl rfl ?_
    refine zK_op rfl rfl ?_
    exact zD116_48_ok hd (xe_I m20 194 8) 1 _ _ _ m20 T21
  refine zK_op rfl rfl ?_
  exact zD116_48_ok hd (xe_I m20 194 8) 0 _ _ _ m20 T21
theorem zD116_ok {μ0 : xe_Mem} {δ : xe_Dy} {d : Nat} (hd : 3 ≤ d) (a1 : Nat) (μ : xe_Mem) (hT : zT zPc μ0 μ) : zK zPc μ0 δ d 116 0 (xe_init [.ref 194, .ref a1] (xM_L 116)) [] μ (zD116 a1 μ) := by
  unfold zD116
  show zK zPc μ0 δ d 116 0 [some (.ref 194), some (.ref a1), none] [] μ _
  refine zK_op rfl rfl ?_
  refine zK_o (fun h1 ph1 => ?_)
  refine zK_gRs rfl h1 hT (fun b2 => ?_)
  refine zK_op rfl rfl ?_
  refine zK_op rfl rfl ?_
  refine zK_op rfl rfl ?_
  refine zK_op rfl rfl ?_
  refine zK_gRl (b := 195) rfl rfl rfl hT ?_
  refine zK_op rfl rfl ?_
  refine zK_o (fun h3 ph3 => ?_)
  refine zK_gRs rfl h3 hT (fun b4 => ?_)
  refine zK_cV rfl (as := [.ref 194, .ref a1, .ref 195, .ref b4]) (rest := []) rfl rfl (xe_rcvO (zT_sh hT rfl)) (Nat.le_of_ble_eq_true rfl) (Nat.le_of_ble_eq_true rfl) (by decide) (fun _ => rfl) (by omega) (zD117_ok (by omega) a1 195 b4 μ hT) (fun m5 T6 => ?_)
  refine zK_op rfl rfl ?_
  refine zK_op rfl rfl ?_
  refine zK_op rfl rfl ?_
  refine zK_gRl (b := 196) rfl rfl rfl T6 ?_
  refine zK_op rfl rfl ?_
  refine zK_gI rfl h1 T6 ?_
  refine zK_x (fun j7 h8 h9 h10 => ?_)
  refine zK_aR rfl rfl T6 h8 h9 h10 (fun b11 => ?_)
  refine zK_op rfl rfl ?_
  refine zK_gRs rfl h3 T6 (fun b12 => ?_)
  refine zK_cV rfl (as := [.ref 194, .ref a1, .ref b11, .ref b12]) (rest := []) rfl rfl (xe_rcvO (zT_sh T6 rfl)) (Nat.le_of_ble_eq_true rfl) (Nat.le_of_ble_eq_true rfl) (by decide) (fun _ => rfl) (by omega) (zD117_ok (by omega) a1 b11 b12 m5 T6) (fun m13 T14 => ?_)
  refine zK_op rfl rfl ?_
  refine zK_op rfl rfl ?_
  refine zK_gI rfl h3 T14 ?_
  refine zK_op rfl rfl ?_
  refine zK_icne rfl (fun _ => ?_) (fun _ => ?_)
  · refine zK_op rfl rfl ?_
    refine zK_gI rfl h1 T14 ?_
    refine zK_op rfl rfl ?_
    exact zD116_30_ok hd a1 b2 b2 (xe_I m13 a1 4) m13 T14
  refine zK_op rfl rfl ?_
  refine zK_gI rfl h3 T14 ?_
  exact zD116_30_ok hd a1 b2 b2 (xe_I m13 b2 2) m13 T14
/-! 115 LogicalTimes$Runner.beginSpans(LLogicalTimes$Mode;)V -/
def zD115_21 (c2 : Nat → Int32 → xe_Mem → zO) (v1 : Nat) (v2 : Int32) (μ : xe_Mem) : zO := c2 v1 (v2 + (1)) μ
def zD115_2_b (c2 : Nat → Int32 → xe_Mem → zO) (v1 : Nat) (v2 : Int32) (μ : xe_Mem) : zO := zq_o v1 2 <| if (xe_I μ v1 3) ≤ v2 then some (.inl none, μ) else zq_s (xe_R μ v1 2) fun b2 => zq_a b2 4 fun N4 => zq_x v2 N4 fun j5 => zq_s (xe_R μ b2 j5) fun b9 => zq_o b9 8 <| zq_d (xe_I μ b9 3) <| if ((xe_I μ 194 3) - (xe_I μ 194 3) / (xe_I μ b9 3) * (xe_I μ b9 3)) = 0 then zq_s (xe_R μ v1 2) fun b12 => zq_a b12 4 fun N14 => zq_x v2 N14 fun j15 => zq_s (xe_R μ b12 j15) fun b19 => zq_cV (zD116 b19 μ) fun m20 => zD115_21 c2 v1 v2 m20 else zD115_21 c2 v1 v2 μ
def zD115_2   : Nat → Nat → Int32 → xe_Mem → zO
  | 0 => fun _ _ _  => none
  | n + 1 => zD115_2_b   (zD115_2   n)
def zD115  (a1 : Nat) (μ : xe_Mem) : zO := zD115_2 zfu a1 0 μ
theorem zD115_21_ok {μ0 : xe_Mem} {δ : xe_Dy} {d : Nat} (hd : 4 ≤ d) {c2 : Nat → Int32 → xe_Mem → zO} (hc2 : ∀ (v1 : Nat) (v2 : Int32) (μ : xe_Mem), zT zPc μ0 μ → zK zPc μ0 δ d 115 2 [some (.ref 194), some (.ref v1), some (.int v2)] [] μ (c2 v1 v2 μ)) : ∀ (v1 : Nat) (v2 : Int32) (μ : xe_Mem), zT zPc μ0 μ → zK zPc μ0 δ d 115 21 [some (.ref 194), some (.ref v1), some (.int v2)] [] μ (zD115_21  c2 v1 v2 μ) := by
  intro v1 v2 μ hT
  unfold zD115_21
  refine zK_op rfl rfl ?_
  refine zK_op rfl rfl ?_
  exact hc2 v1 (v2 + (1)) μ hT
theorem zD115_2_bok {μ0 : xe_Mem} {δ : xe_Dy} {d : Nat} (hd : 4 ≤ d)  {c2 : Nat → Int32 → xe_Mem → zO} (hc2 : ∀ (v1 : Nat) (v2 : Int32) (μ : xe_Mem), zT zPc μ0 μ → zK zPc μ0 δ d 115 2 [some (.ref 194), some (.ref v1), some (.int v2)] [] μ (c2 v1 v2 μ)) : ∀ (v1 : Nat) (v2 : Int32) (μ : xe_Mem), zT zPc μ0 μ → zK zPc μ0 δ d 115 2 [some (.ref 194), some (.ref v1), some (.int v2)] [] μ (zD115_2_b  c2 v1 v2 μ) := by
  intro v1 v2 μ hT
  unfold zD115_2_b
  refine zK_op rfl rfl ?_
  refine zK_op rfl rfl ?_
  refine zK_o (fun h1 ph1 => ?_)
  refine zK_gI rfl h1 hT ?_
  refine zK_icge rfl (fun _ => ?_) (fun _ => ?_)
  · exact zK_ret0 rfl hT
  refine zK_op rfl rfl ?_
  refine zK_gI rfl rfl hT ?_
  refine zK_op rfl rfl ?_
  refine zK_gRs rfl h1 hT (fun b2 => ?_)
  refine zK_op rfl rfl ?_
  refine zK_a (fun N4 h3 ph3 => ?_)
  refine zK_x (fun j5 h6 h7 h8 => ?_)
  refine zK_aR rfl h3 hT h6 h7 h8 (fun b9 => ?_)
  refine zK_o (fun h10 ph10 => ?_)
  refine zK_gI rfl h10 hT ?_
  refine zK_dv (fun h11 => ?_)
  refine zK_i2d rfl h11 ?_
  refine zK_ifne rfl (fun _ => ?_) (fun _ => ?_)
  · refine zK_op rfl rfl ?_
    refine zK_op rfl rfl ?_
    refine zK_gRs rfl h1 hT (fun b12 => ?_)
    refine zK_op rfl rfl ?_
    refine zK_a (fun N14 h13 ph13 => ?_)
    refine zK_x (fun j15 h16 h17 h18 => ?_)
    refine zK_aR rfl h13 hT h16 h17 h18 (fun b19 => ?_)
    refine zK_cV rfl (as := [.ref 194, .ref b19]) (rest := []) rfl rfl (xe_rcvO (zT_sh hT rfl)) (Nat.le_of_ble_eq_true rfl) (Nat.le_of_ble_eq_true rfl) (by decide) (fun _ => rfl) (by omega) (zD116_ok (by omega) b19 μ hT) (fun m20 T21 => ?_)
    exact zD115_21_ok hd hc2 v1 v2 m20 T21
  exact zD115_21_ok hd hc2 v1 v2 μ hT
theorem zD115_2_ok {μ0 : xe_Mem} {δ : xe_Dy} {d : Nat} (hd : 4 ≤ d)  : ∀ n : Nat, ∀ (v1 : Nat) (v2 : Int32) (μ : xe_Mem), zT zPc μ0 μ → zK zPc μ0 δ d 115 2 [some (.ref 194), some (.ref v1), some (.int v2)] [] μ (zD115_2  n v1 v2 μ) := by
  intro n
  induction n with
  | zero => exact fun _ _ _ _  => fun o μ' h => by cases h
  | succ n ih => exact zD115_2_bok hd   ih
theorem zD115_ok {μ0 : xe_Mem} {δ : xe_Dy} {d : Nat} (hd : 4 ≤ d) (a1 : Nat) (μ : xe_Mem) (hT : zT zPc μ0 μ) : zK zPc μ0 δ d 115 0 (xe_init [.ref 194, .ref a1] (xM_L 115)) [] μ (zD115 a1 μ) := by
  unfold zD115
  show zK zPc μ0 δ d 115 0 [some (.ref 194), some (.ref a1), none] [] μ _
  refine zK_op rfl rfl ?_
  refine zK_op rfl rfl ?_
  exact zD115_2_ok hd zfu a1 0 μ hT
/-! 118 LogicalTimes$Runner.sendMessage(LLogicalTimes$Mode;)V -/
def zD118_31 (μ : xe_Mem) : zO := some (.inl none, μ)
def zD118  (a1 : Nat) (μ : xe_Mem) : zO := zq_o a1 2 <| zq_s (xe_R μ a1 8) fun b2 => zq_a b2 4 fun N4 => zq_x (xe_I μ 194 3) N4 fun j5 => zq_vO (xe_R μ b2 j5) fun t9 => zq_n t9 (zD118_31 μ) fun b10 => zq_o b10 8 <| zq_s (xe_R μ b10 14) fun b12 => zq_o b12 6 <| if (xe_I μ b12 0) = 0 then zq_s (xe_R μ b10 14) fun b14 => zq_o b14 6 <| zq_s (xe_R μ a1 9) fun b16 => zq_a b16 0 fun N18 => zq_x (xe_I μ 194 3) N18 fun j19 => zq_m (xe_setI μ b14 4 ((xe_I μ b14 4) ||| (1 <<< ((xe_I μ b16 j19) &&& 31)))) fun m23 => zq_m (xe_setI m23 194 7 ((xe_I m23 194 7) + 1)) fun m25 => zD118_31 m25 else zD118_31 μ
theorem zD118_31_ok {μ0 : xe_Mem} {δ : xe_Dy} {d : Nat} (hd : 0 ≤ d)  : ∀ (l0 : Option Value) (l1 : Option Value) (l2 : Option Value) (μ : xe_Mem), zT zPc μ0 μ → zK zPc μ0 δ d 118 31 [l0, l1, l2] [] μ (zD118_31  μ) := by
  intro l0 l1 l2 μ hT
  unfold zD118_31
  exact zK_ret0 rfl hT
theorem zD118_ok {μ0 : xe_Mem} {δ : xe_Dy} {d : Nat} (hd : 0 ≤ d) (a1 : Nat) (μ : xe_Mem) (hT : zT zPc μ0 μ) : zK zPc μ0 δ d 118 0 (xe_init [.ref 194, .ref a1] (xM_L 118)) [] μ (zD118 a1 μ) := by
  unfold zD118
  show zK zPc μ0 δ d 118 0 [some (.ref 194), some (.ref a1), none] [] μ _
  refine zK_op rfl rfl ?_
  refine zK_o (fun h1 ph1 => ?_)
  refine zK_gRs rfl h1 hT (fun b2 => ?_)
  refine zK_op rfl rfl ?_
  refine zK_gI rfl rfl hT ?_
  refine zK_a (fun N4 h3 ph3 => ?_)
  refine zK_x (fun j5 h6 h7 h8 => ?_)
  refine zK_aO rfl h3 hT h6 h7 h8 (fun t9 => ?_)
  refine zK_op rfl ze_stO ?_
  refine zK_op rfl (ze_ldO rfl) ?_
  cases t9 with
  | none =>
    refine zK_nullN rfl ?_
    exact zD118_31_ok hd _ _ _ μ hT
  | some b10 =>
    refine zK_nullS rfl ?_
    refine zK_op rfl rfl ?_
    refine zK_o (fun h11 ph11 => ?_)
    refine zK_gRs rfl h11 hT (fun b12 => ?_)
    refine zK_o (fun h13 ph13 => ?_)
    refine zK_gI rfl h13 hT ?_
    refine zK_ifne rfl (fun _ => ?_) (fun _ => ?_)
    · refine zK_op rfl rfl ?_
      refine zK_gRs rfl h11 hT (fun b14 => ?_)
      refine zK_op rfl rfl ?_
      refine zK_o (fun h15 ph15 => ?_)
      refine zK_gI rfl h15 hT ?_
      refine zK_op rfl rfl ?_
      refine zK_op rfl rfl ?_
      refine zK_gRs rfl h1 hT (fun b16 => ?_)
      refine zK_op rfl rfl ?_
      refine zK_gI rfl rfl hT ?_
      refine zK_a (fun N18 h17 ph17 => ?_)
      refine zK_x (fun j19 h20 h21 h22 => ?_)
      refine zK_aI rfl h17 hT h20 h21 h22 ?_
      refine zK_op rfl rfl ?_
      refine zK_op rfl rfl ?_
      refine zK_pI rfl h15 hT ph15 (fun m23 T24 => ?_)
      refine zK_op rfl rfl ?_
      refine zK_op rfl rfl ?_
      refine zK_gI rfl rfl T24 ?_
      refine zK_op rfl rfl ?_
      refine zK_op rfl rfl ?_
      refine zK_pI rfl rfl T24 rfl (fun m25 T26 => ?_)
      exact zD118_31_ok hd _ _ _ m25 T26
    exact zD118_31_ok hd _ _ _ μ hT
/-! 119 LogicalTimes$Runner.runNode(I)V -/
def zD119_40 (μ : xe_Mem) : zO := some (.inl none, μ)
def zD119_38 (s1 : Int32) (s2 : Int32) (μ : xe_Mem) : zO := zq_m (xe_setI μ 194 8 (s1 + s2)) fun m25 => zD119_40 m25
def zD119_18 (v2 : Option Nat) (s1 : Int32) (s2 : Int32) (μ : xe_Mem) : zO := zq_x s1 4 fun j11 => zq_m (xe_setI μ 202 j11 s2) fun m15 => zq_n v2 (zD119_40 m15) fun b17 => zq_o b17 8 <| zq_s (xe_R m15 b17 14) fun b19 => zq_o b19 6 <| zq_m (xe_setI m15 b19 0 ((xe_I m15 b19 0) - 1)) fun m21 => zq_s (xe_R m21 b17 14) fun b23 => zq_o b23 6 <| if (xe_I m21 b23 0) = 0 then zD119_38 (xe_I m21 194 8) 1 m21 else zD119_38 (xe_I m21 194 8) 0 m21
def zD119  (a1 : Int32) (μ : xe_Mem) : zO := zq_x (xe_I μ 194 2) 4 fun j1 => zq_s (xe_R μ 15 j1) fun b5 => zq_o b5 2 <| zq_cO (zD78 b5 a1 μ) fun x9 m7 => zq_n x9 (zD119_18 none a1 ((-1)) m7) fun b10 => zq_o b10 8 <| zD119_18 (some b10) a1 (xe_I m7 b10 0) m7
theorem zD119_40_ok {μ0 : xe_Mem} {δ : xe_Dy} {d : Nat} (hd : 1 ≤ d)  : ∀ (l0 : Option Value) (l1 : Option Value) (l2 : Option Value) (μ : xe_Mem), zT zPc μ0 μ → zK zPc μ0 δ d 119 40 [l0, l1, l2] [] μ (zD119_40  μ) := by
  intro l0 l1 l2 μ hT
  unfold zD119_40
  exact zK_ret0 rfl hT
theorem zD119_38_ok {μ0 : xe_Mem} {δ : xe_Dy} {d : Nat} (hd : 1 ≤ d)  : ∀ (s1 : Int32) (s2 : Int32) (l0 : Option Value) (l1 : Option Value) (l2 : Option Value) (μ : xe_Mem), zT zPc μ0 μ → zK zPc μ0 δ d 119 38 [l0, l1, l2] [.int s2, .int s1, .ref 194] μ (zD119_38  s1 s2 μ) := by
  intro s1 s2 l0 l1 l2 μ hT
  unfold zD119_38
  refine zK_op rfl rfl ?_
  refine zK_pI rfl rfl hT rfl (fun m25 T26 => ?_)
  exact zD119_40_ok hd _ _ _ m25 T26
theorem zD119_18_ok {μ0 : xe_Mem} {δ : xe_Dy} {d : Nat} (hd : 1 ≤ d)  : ∀ (v2 : Option Nat) (s1 : Int32) (s2 : Int32) (l1 : Option Value) (μ : xe_Mem), zT zPc μ0 μ → zK zPc μ0 δ d 119 18 [some (.ref 194), l1, some (va_rf v2)] [.int s2, .int s1, .ref 202] μ (zD119_18  v2 s1 s2 μ) := by
  intro v2 s1 s2 l1 μ hT
  unfold zD119_18
  refine zK_x (fun j11 h12 h13 h14 => ?_)
  refine zK_sI (a := 202) (g := (fun x => x)) rfl rfl hT h12 h13 h14 rfl (fun m15 T16 => ?_)
  refine zK_op rfl (ze_ldO rfl) ?_
  cases v2 with
  | none =>
    refine zK_nullN rfl ?_
    exact zD119_40_ok hd _ _ _ m15 T16
  | some b17 =>
    refine zK_nullS rfl ?_
    refine zK_op rfl rfl ?_
    refine zK_o (fun h18 ph18 => ?_)
    refine zK_gRs rfl h18 T16 (fun b19 => ?_)
    refine zK_op rfl rfl ?_
    refine zK_o (fun h20 ph20 => ?_)
    refine zK_gI rfl h20 T16 ?_
    refine zK_op rfl rfl ?_
    refine zK_op rfl rfl ?_
    refine zK_pI rfl h20 T16 ph20 (fun m21 T22 => ?_)
    refine zK_op rfl rfl ?_
    refine zK_op rfl rfl ?_
    refine zK_gI rfl rfl T22 ?_
    refine zK_op rfl rfl ?_
    refine zK_gRs rfl h18 T22 (fun b23 => ?_)
    refine zK_o (fun h24 ph24 => ?_)
    refine zK_gI rfl h24 T22 ?_
    refine zK_ifne rfl (fun _ => ?_) (fun _ => ?_)
    · refine zK_op rfl rfl ?_
      refine zK_op rfl rfl ?_
      exact zD119_38_ok hd (xe_I m21 194 8) 1 _ _ _ m21 T22
    refine zK_op rfl rfl ?_
    exact zD119_38_ok hd (xe_I m21 194 8) 0 _ _ _ m21 T22
theorem zD119_ok {μ0 : xe_Mem} {δ : xe_Dy} {d : Nat} (hd : 1 ≤ d) (a1 : Int32) (μ : xe_Mem) (hT : zT zPc μ0 μ) : zK zPc μ0 δ d 119 0 (xe_init [.ref 194, .int a1] (xM_L 119)) [] μ (zD119 a1 μ) := by
  unfold zD119
  show zK zPc μ0 δ d 119 0 [some (.ref 194), some (.int a1), none] [] μ _
  refine zK_op rfl rfl ?_
  refine zK_gRl (b := 7) rfl rfl rfl hT ?_
  refine zK_gRl (b := 15) rfl rfl rfl hT ?_
  refine zK_op rfl rfl ?_
  refine zK_gI rfl rfl hT ?_
  refine zK_x (fun j1 h2 h3 h4 => ?_)
  refine zK_aR rfl rfl hT h2 h3 h4 (fun b5 => ?_)
  refine zK_op rfl rfl ?_
  refine zK_o (fun h6 ph6 => ?_)
  refine zK_cO rfl (as := [.ref b5, .int a1]) (rest := []) rfl rfl (xe_rcvO (zT_sh hT h6)) (Nat.le_of_ble_eq_true rfl) (Nat.le_of_ble_eq_true rfl) (by decide) (fun _ => rfl) (by omega) (zD78_ok (by omega) b5 a1 μ hT) (fun x9 m7 T8 => ?_)
  refine zK_op rfl ze_stO ?_
  refine zK_op rfl rfl ?_
  refine zK_gRl (b := 202) rfl rfl rfl T8 ?_
  refine zK_op rfl rfl ?_
  refine zK_op rfl (ze_ldO rfl) ?_
  cases x9 with
  | none =>
    refine zK_nonnullN rfl ?_
    refine zK_op rfl rfl ?_
    refine zK_op rfl rfl ?_
    exact zD119_18_ok hd none a1 ((-1)) _ m7 T8
  | some b10 =>
    refine zK_nonnullS rfl ?_
    refine zK_op rfl rfl ?_
    refine zK_o (fun h27 ph27 => ?_)
    refine zK_gI rfl h27 T8 ?_
    exact zD119_18_ok hd (some b10) a1 (xe_I m7 b10 0) _ m7 T8
/-! 105 LogicalTimes$Runner.passTick()V -/
def zD105_37_b (c37 : Int32 → xe_Mem → zO) (v1 : Int32) (μ : xe_Mem) : zO := if 4 ≤ v1 then zq_m (xe_setI μ 194 3 ((xe_I μ 194 3) + 1)) fun m15 => some (.inl none, m15) else zq_cV (zD119 v1 μ) fun m17 => c37 (v1 + (1)) m17
def zD105_37   : Nat → Int32 → xe_Mem → zO
  | 0 => fun _ _  => none
  | n + 1 => zD105_37_b   (zD105_37   n)
def zD105_19 (μ : xe_Mem) : zO := zq_x (xe_I μ 194 2) 4 fun j1 => zq_s (xe_R μ 15 j1) fun b5 => zq_cV (zD115 b5 μ) fun m6 => zq_x (xe_I m6 194 2) 4 fun j8 => zq_s (xe_R m6 15 j8) fun b12 => zq_cV (zD118 b12 m6) fun m13 => zD105_37 zfu 0 m13
def zD105   (μ : xe_Mem) : zO := if (xe_I μ 194 3) ≤ 0 then zD105_19 μ else zq_x (xe_I μ 194 2) 4 fun j19 => zq_s (xe_R μ 15 j19) fun b23 => zq_cV (zD106 b23 μ) fun m24 => zq_x (xe_I m24 194 2) 4 fun j26 => zq_s (xe_R m24 15 j26) fun b30 => zq_cV (zD109 b30 m24) fun m31 => zD105_19 m31
theorem zD105_37_bok {μ0 : xe_Mem} {δ : xe_Dy} {d : Nat} (hd : 5 ≤ d)  {c37 : Int32 → xe_Mem → zO} (hc37 : ∀ (v1 : Int32) (μ : xe_Mem), zT zPc μ0 μ → zK zPc μ0 δ d 105 37 [some (.ref 194), some (.int v1)] [] μ (c37 v1 μ)) : ∀ (v1 : Int32) (μ : xe_Mem), zT zPc μ0 μ → zK zPc μ0 δ d 105 37 [some (.ref 194), some (.int v1)] [] μ (zD105_37_b  c37 v1 μ) := by
  intro v1 μ hT
  unfold zD105_37_b
  refine zK_op rfl rfl ?_
  refine zK_op rfl rfl ?_
  refine zK_icge rfl (fun _ => ?_) (fun _ => ?_)
  · refine zK_op rfl rfl ?_
    refine zK_op rfl rfl ?_
    refine zK_gI rfl rfl hT ?_
    refine zK_op rfl rfl ?_
    refine zK_op rfl rfl ?_
    refine zK_pI rfl rfl hT rfl (fun m15 T16 => ?_)
    exact zK_ret0 rfl T16
  refine zK_op rfl rfl ?_
  refine zK_op rfl rfl ?_
  refine zK_cV rfl (as := [.ref 194, .int v1]) (rest := []) rfl rfl (xe_rcvO (zT_sh hT rfl)) (Nat.le_of_ble_eq_true rfl) (Nat.le_of_ble_eq_true rfl) (by decide) (fun _ => rfl) (by omega) (zD119_ok (by omega) v1 μ hT) (fun m17 T18 => ?_)
  refine zK_op rfl rfl ?_
  refine zK_op rfl rfl ?_
  exact hc37 (v1 + (1)) m17 T18
theorem zD105_37_ok {μ0 : xe_Mem} {δ : xe_Dy} {d : Nat} (hd : 5 ≤ d)  : ∀ n : Nat, ∀ (v1 : Int32) (μ : xe_Mem), zT zPc μ0 μ → zK zPc μ0 δ d 105 37 [some (.ref 194), some (.int v1)] [] μ (zD105_37  n v1 μ) := by
  intro n
  induction n with
  | zero => exact fun _ _ _  => fun o μ' h => by cases h
  | succ n ih => exact zD105_37_bok hd   ih
theorem zD105_19_ok {μ0 : xe_Mem} {δ : xe_Dy} {d : Nat} (hd : 5 ≤ d)  : ∀ (μ : xe_Mem), zT zPc μ0 μ → zK zPc μ0 δ d 105 19 [some (.ref 194), none] [] μ (zD105_19  μ) := by
  intro μ hT
  unfold zD105_19
  refine zK_op rfl rfl ?_
  refine zK_op rfl rfl ?_
  refine zK_gRl (b := 7) rfl rfl rfl hT ?_
  refine zK_gRl (b := 15) rfl rfl rfl hT ?_
  refine zK_op rfl rfl ?_
  refine zK_gI rfl rfl hT ?_
  refine zK_x (fun j1 h2 h3 h4 => ?_)
  refine zK_aR rfl rfl hT h2 h3 h4 (fun b5 => ?_)
  refine zK_cV rfl (as := [.ref 194, .ref b5]) (rest := []) rfl rfl (xe_rcvO (zT_sh hT rfl)) (Nat.le_of_ble_eq_true rfl) (Nat.le_of_ble_eq_true rfl) (by decide) (fun _ => rfl) (by omega) (zD115_ok (by omega) b5 μ hT) (fun m6 T7 => ?_)
  refine zK_op rfl rfl ?_
  refine zK_op rfl rfl ?_
  refine zK_gRl (b := 7) rfl rfl rfl T7 ?_
  refine zK_gRl (b := 15) rfl rfl rfl T7 ?_
  refine zK_op rfl rfl ?_
  refine zK_gI rfl rfl T7 ?_
  refine zK_x (fun j8 h9 h10 h11 => ?_)
  refine zK_aR rfl rfl T7 h9 h10 h11 (fun b12 => ?_)
  refine zK_cV rfl (as := [.ref 194, .ref b12]) (rest := []) rfl rfl (xe_rcvO (zT_sh T7 rfl)) (Nat.le_of_ble_eq_true rfl) (Nat.le_of_ble_eq_true rfl) (by decide) (fun _ => rfl) (by omega) (zD118_ok (by omega) b12 m6 T7) (fun m13 T14 => ?_)
  refine zK_op rfl rfl ?_
  refine zK_op rfl rfl ?_
  exact zD105_37_ok hd zfu 0 m13 T14
theorem zD105_ok {μ0 : xe_Mem} {δ : xe_Dy} {d : Nat} (hd : 5 ≤ d) (μ : xe_Mem) (hT : zT zPc μ0 μ) : zK zPc μ0 δ d 105 0 (xe_init [.ref 194] (xM_L 105)) [] μ (zD105 μ) := by
  unfold zD105
  show zK zPc μ0 δ d 105 0 [some (.ref 194), none] [] μ _
  refine zK_op rfl rfl ?_
  refine zK_gI rfl rfl hT ?_
  refine zK_ifle rfl (fun _ => ?_) (fun _ => ?_)
  · exact zD105_19_ok hd μ hT
  refine zK_op rfl rfl ?_
  refine zK_op rfl rfl ?_
  refine zK_gRl (b := 7) rfl rfl rfl hT ?_
  refine zK_gRl (b := 15) rfl rfl rfl hT ?_
  refine zK_op rfl rfl ?_
  refine zK_gI rfl rfl hT ?_
  refine zK_x (fun j19 h20 h21 h22 => ?_)
  refine zK_aR rfl rfl hT h20 h21 h22 (fun b23 => ?_)
  refine zK_cV rfl (as := [.ref 194, .ref b23]) (rest := []) rfl rfl (xe_rcvO (zT_sh hT rfl)) (Nat.le_of_ble_eq_true rfl) (Nat.le_of_ble_eq_true rfl) (by decide) (fun _ => rfl) (by omega) (zD106_ok (by omega) b23 μ hT) (fun m24 T25 => ?_)
  refine zK_op rfl rfl ?_
  refine zK_op rfl rfl ?_
  refine zK_gRl (b := 7) rfl rfl rfl T25 ?_
  refine zK_gRl (b := 15) rfl rfl rfl T25 ?_
  refine zK_op rfl rfl ?_
  refine zK_gI rfl rfl T25 ?_
  refine zK_x (fun j26 h27 h28 h29 => ?_)
  refine zK_aR rfl rfl T25 h27 h28 h29 (fun b30 => ?_)
  refine zK_cV rfl (as := [.ref 194, .ref b30]) (rest := []) rfl rfl (xe_rcvO (zT_sh T25 rfl)) (Nat.le_of_ble_eq_true rfl) (Nat.le_of_ble_eq_true rfl) (by decide) (fun _ => rfl) (by omega) (zD109_ok (by omega) b30 m24 T25) (fun m31 T32 => ?_)
  exact zD105_19_ok hd m31 T32
/-! 104 LogicalTimes.tick(I)V -/
def zD104_8 (μ : xe_Mem) : zO := zq_thr 12 μ
def zD104_14_b (c14 : Int32 → Int32 → xe_Mem → zO) (v1 : Int32) (v2 : Int32) (μ : xe_Mem) : zO := if v1 ≤ v2 then some (.inl none, μ) else zq_cV (zD105 μ) fun m3 => c14 v1 (v2 + (1)) m3
def zD104_14   : Nat → Int32 → Int32 → xe_Mem → zO
  | 0 => fun _ _ _  => none
  | n + 1 => zD104_14_b   (zD104_14   n)
def zD104  (a1 : Int32) (μ : xe_Mem) : zO := zq_cV (zD100 μ) fun m1 => if a1 < 1 then zD104_8 m1 else if a1 ≤ 200 then zD104_14 zfu a1 0 m1 else zD104_8 m1
theorem zD104_8_ok {μ0 : xe_Mem} {δ : xe_Dy} {d : Nat} (hd : 6 ≤ d)  : ∀ (l0 : Option Value) (l1 : Option Value) (μ : xe_Mem), zT zPc μ0 μ → zK zPc μ0 δ d 104 8 [l0, l1, none] [] μ (zD104_8  μ) := by
  intro l0 l1 μ hT
  unfold zD104_8
  exact zK_thr (c := 12) rfl (by decide) (fun _ => rfl) hT
theorem zD104_14_bok {μ0 : xe_Mem} {δ : xe_Dy} {d : Nat} (hd : 6 ≤ d)  {c14 : Int32 → Int32 → xe_Mem → zO} (hc14 : ∀ (v1 : Int32) (v2 : Int32) (μ : xe_Mem), zT zPc μ0 μ → zK zPc μ0 δ d 104 14 [some (.ref 0), some (.int v1), some (.int v2)] [] μ (c14 v1 v2 μ)) : ∀ (v1 : Int32) (v2 : Int32) (μ : xe_Mem), zT zPc μ0 μ → zK zPc μ0 δ d 104 14 [some (.ref 0), some (.int v1), some (.int v2)] [] μ (zD104_14_b  c14 v1 v2 μ) := by
  intro v1 v2 μ hT
  unfold zD104_14_b
  refine zK_op rfl rfl ?_
  refine zK_op rfl rfl ?_
  refine zK_icge rfl (fun _ => ?_) (fun _ => ?_)
  · exact zK_ret0 rfl hT
  refine zK_op rfl rfl ?_
  refine zK_gRl (b := 194) rfl rfl rfl hT ?_
  refine zK_cV rfl (as := [.ref 194]) (rest := []) rfl rfl (xe_rcvO (zT_sh hT rfl)) (Nat.le_of_ble_eq_true rfl) (Nat.le_of_ble_eq_true rfl) (by decide) (fun _ => rfl) (by omega) (zD105_ok (by omega) μ hT) (fun m3 T4 => ?_)
  refine zK_op rfl rfl ?_
  refine zK_op rfl rfl ?_
  exact hc14 v1 (v2 + (1)) m3 T4
theorem zD104_14_ok {μ0 : xe_Mem} {δ : xe_Dy} {d : Nat} (hd : 6 ≤ d)  : ∀ n : Nat, ∀ (v1 : Int32) (v2 : Int32) (μ : xe_Mem), zT zPc μ0 μ → zK zPc μ0 δ d 104 14 [some (.ref 0), some (.int v1), some (.int v2)] [] μ (zD104_14  n v1 v2 μ) := by
  intro n
  induction n with
  | zero => exact fun _ _ _ _  => fun o μ' h => by cases h
  | succ n ih => exact zD104_14_bok hd   ih
theorem zD104_ok {μ0 : xe_Mem} {δ : xe_Dy} {d : Nat} (hd : 6 ≤ d) (a1 : Int32) (μ : xe_Mem) (hT : zT zPc μ0 μ) : zK zPc μ0 δ d 104 0 (xe_init [.ref 0, .int a1] (xM_L 104)) [] μ (zD104 a1 μ) := by
  unfold zD104
  show zK zPc μ0 δ d 104 0 [some (.ref 0), some (.int a1), none] [] μ _
  refine zK_op rfl rfl ?_
  refine zK_cV rfl (as := [.ref 0]) (rest := []) rfl rfl (xe_rcvO (zT_sh hT rfl)) (Nat.le_of_ble_eq_true rfl) (Nat.le_of_ble_eq_true rfl) (by decide) (fun _ => rfl) (by omega) (zD100_ok (by omega) μ hT) (fun m1 T2 => ?_)
  refine zK_op rfl rfl ?_
  refine zK_op rfl rfl ?_
  refine zK_iclt rfl (fun _ => ?_) (fun _ => ?_)
  · exact zD104_8_ok hd _ _ m1 T2
  refine zK_op rfl rfl ?_
  refine zK_op rfl rfl ?_
  refine zK_icle rfl (fun _ => ?_) (fun _ => ?_)
  · refine zK_op rfl rfl ?_
    refine zK_op rfl rfl ?_
    exact zD104_14_ok hd zfu a1 0 m1 T2
  exact zD104_8_ok hd _ _ m1 T2
/-! 121 LogicalTimes.port(II)I -/
def zD121  (a1 : Int32) (a2 : Int32) (μ : xe_Mem) : zO := zq_cV (zD100 μ) fun m1 => zq_cV (zD86 a1 4 m1) fun m3 => zq_cV (zD86 a2 (xe_I m3 7 4) m3) fun m5 => zq_x a1 4 fun j7 => zq_s (xe_R m5 196 j7) fun b11 => zq_a b11 0 fun N13 => zq_x a2 N13 fun j14 => some (.inl (some (.int (xe_I m5 b11 j14))), m5)
theorem zD121_ok {μ0 : xe_Mem} {δ : xe_Dy} {d : Nat} (hd : 1 ≤ d) (a1 : Int32) (a2 : Int32) (μ : xe_Mem) (hT : zT zPc μ0 μ) : zK zPc μ0 δ d 121 0 (xe_init [.ref 0, .int a1, .int a2] (xM_L 121)) [] μ (zD121 a1 a2 μ) := by
  unfold zD121
  show zK zPc μ0 δ d 121 0 [some (.ref 0), some (.int a1), some (.int a2)] [] μ _
  refine zK_op rfl rfl ?_
  refine zK_cV rfl (as := [.ref 0]) (rest := []) rfl rfl (xe_rcvO (zT_sh hT rfl)) (Nat.le_of_ble_eq_true rfl) (Nat.le_of_ble_eq_true rfl) (by decide) (fun _ => rfl) (by omega) (zD100_ok (by omega) μ hT) (fun m1 T2 => ?_)
  refine zK_op rfl rfl ?_
  refine zK_op rfl rfl ?_
  refine zK_cV rfl (as := [.int a1, .int 4]) (rest := []) rfl rfl rfl (Nat.le_of_ble_eq_true rfl) (Nat.le_of_ble_eq_true rfl) (by decide) (fun _ => rfl) (by omega) (zD86_ok (by omega) a1 4 m1 T2) (fun m3 T4 => ?_)
  refine zK_op rfl rfl ?_
  refine zK_op rfl rfl ?_
  refine zK_gRl (b := 7) rfl rfl rfl T4 ?_
  refine zK_gI rfl rfl T4 ?_
  refine zK_cV rfl (as := [.int a2, .int (xe_I m3 7 4)]) (rest := []) rfl rfl rfl (Nat.le_of_ble_eq_true rfl) (Nat.le_of_ble_eq_true rfl) (by decide) (fun _ => rfl) (by omega) (zD86_ok (by omega) a2 (xe_I m3 7 4) m3 T4) (fun m5 T6 => ?_)
  refine zK_op rfl rfl ?_
  refine zK_gRl (b := 194) rfl rfl rfl T6 ?_
  refine zK_gRl (b := 196) rfl rfl rfl T6 ?_
  refine zK_op rfl rfl ?_
  refine zK_x (fun j7 h8 h9 h10 => ?_)
  refine zK_aR rfl rfl T6 h8 h9 h10 (fun b11 => ?_)
  refine zK_op rfl rfl ?_
  refine zK_a (fun N13 h12 ph12 => ?_)
  refine zK_x (fun j14 h15 h16 h17 => ?_)
  refine zK_aI rfl h12 T6 h15 h16 h17 ?_
  exact zK_ret1 rfl T6
/-! 123 LogicalTimes.denoted(I)I -/
def zD123  (a1 : Int32) (μ : xe_Mem) : zO := zq_cV (zD100 μ) fun m1 => zq_cV (zD86 a1 (xe_I m1 7 4) m1) fun m3 => zq_x a1 12 fun j5 => some (.inl (some (.int (xe_I m3 195 j5))), m3)
theorem zD123_ok {μ0 : xe_Mem} {δ : xe_Dy} {d : Nat} (hd : 1 ≤ d) (a1 : Int32) (μ : xe_Mem) (hT : zT zPc μ0 μ) : zK zPc μ0 δ d 123 0 (xe_init [.ref 0, .int a1] (xM_L 123)) [] μ (zD123 a1 μ) := by
  unfold zD123
  show zK zPc μ0 δ d 123 0 [some (.ref 0), some (.int a1)] [] μ _
  refine zK_op rfl rfl ?_
  refine zK_cV rfl (as := [.ref 0]) (rest := []) rfl rfl (xe_rcvO (zT_sh hT rfl)) (Nat.le_of_ble_eq_true rfl) (Nat.le_of_ble_eq_true rfl) (by decide) (fun _ => rfl) (by omega) (zD100_ok (by omega) μ hT) (fun m1 T2 => ?_)
  refine zK_op rfl rfl ?_
  refine zK_op rfl rfl ?_
  refine zK_gRl (b := 7) rfl rfl rfl T2 ?_
  refine zK_gI rfl rfl T2 ?_
  refine zK_cV rfl (as := [.int a1, .int (xe_I m1 7 4)]) (rest := []) rfl rfl rfl (Nat.le_of_ble_eq_true rfl) (Nat.le_of_ble_eq_true rfl) (by decide) (fun _ => rfl) (by omega) (zD86_ok (by omega) a1 (xe_I m1 7 4) m1 T2) (fun m3 T4 => ?_)
  refine zK_op rfl rfl ?_
  refine zK_gRl (b := 194) rfl rfl rfl T4 ?_
  refine zK_gRl (b := 195) rfl rfl rfl T4 ?_
  refine zK_op rfl rfl ?_
  refine zK_x (fun j5 h6 h7 h8 => ?_)
  refine zK_aI rfl rfl T4 h6 h7 h8 ?_
  exact zK_ret1 rfl T4
/-! 125 LogicalTimes.state(I)I -/
def zD125  (a1 : Int32) (μ : xe_Mem) : zO := zq_cV (zD100 μ) fun m1 => if a1 = 0 then some (.inl (some (.int (xe_I m1 194 2))), m1) else if a1 = 1 then some (.inl (some (.int (xe_I m1 194 3))), m1) else if a1 = 2 then some (.inl (some (.int (xe_I m1 194 4))), m1) else if a1 = 3 then some (.inl (some (.int (xe_I m1 194 5))), m1) else if a1 = 4 then some (.inl (some (.int (xe_I m1 194 6))), m1) else if a1 = 5 then some (.inl (some (.int (xe_I m1 194 7))), m1) else if a1 = 6 then some (.inl (some (.int (xe_I m1 194 8))), m1) else zq_thr 14 m1
theorem zD125_ok {μ0 : xe_Mem} {δ : xe_Dy} {d : Nat} (hd : 1 ≤ d) (a1 : Int32) (μ : xe_Mem) (hT : zT zPc μ0 μ) : zK zPc μ0 δ d 125 0 (xe_init [.ref 0, .int a1] (xM_L 125)) [] μ (zD125 a1 μ) := by
  unfold zD125
  show zK zPc μ0 δ d 125 0 [some (.ref 0), some (.int a1)] [] μ _
  refine zK_op rfl rfl ?_
  refine zK_cV rfl (as := [.ref 0]) (rest := []) rfl rfl (xe_rcvO (zT_sh hT rfl)) (Nat.le_of_ble_eq_true rfl) (Nat.le_of_ble_eq_true rfl) (by decide) (fun _ => rfl) (by omega) (zD100_ok (by omega) μ hT) (fun m1 T2 => ?_)
  refine zK_op rfl rfl ?_
  refine zK_ite (fun h3 => ?_) (fun h3 => ?_)
  · rw [h3]
    refine zK_op (k' := 4) rfl (by rfl) ?_
    refine zK_op rfl rfl ?_
    refine zK_gRl (b := 194) rfl rfl rfl T2 ?_
    refine zK_gI rfl rfl T2 ?_
    exact zK_ret1 rfl T2
  refine zK_ite (fun h4 => ?_) (fun h4 => ?_)
  · rw [h4]
    refine zK_op (k' := 8) rfl (by rfl) ?_
    refine zK_op rfl rfl ?_
    refine zK_gRl (b := 194) rfl rfl rfl T2 ?_
    refine zK_gI rfl rfl T2 ?_
    exact zK_ret1 rfl T2
  refine zK_ite (fun h5 => ?_) (fun h5 => ?_)
  · rw [h5]
    refine zK_op (k' := 12) rfl (by rfl) ?_
    refine zK_op rfl rfl ?_
    refine zK_gRl (b := 194) rfl rfl rfl T2 ?_
    refine zK_gI rfl rfl T2 ?_
    exact zK_ret1 rfl T2
  refine zK_ite (fun h6 => ?_) (fun h6 => ?_)
  · rw [h6]
    refine zK_op (k' := 16) rfl (by rfl) ?_
    refine zK_op rfl rfl ?_
    refine zK_gRl (b := 194) rfl rfl rfl T2 ?_
    refine zK_gI rfl rfl T2 ?_
    exact zK_ret1 rfl T2
  refine zK_ite (fun h7 => ?_) (fun h7 => ?_)
  · rw [h7]
    refine zK_op (k' := 20) rfl (by rfl) ?_
    refine zK_op rfl rfl ?_
    refine zK_gRl (b := 194) rfl rfl rfl T2 ?_
    refine zK_gI rfl rfl T2 ?_
    exact zK_ret1 rfl T2
  refine zK_ite (fun h8 => ?_) (fun h8 => ?_)
  · rw [h8]
    refine zK_op (k' := 24) rfl (by rfl) ?_
    refine zK_op rfl rfl ?_
    refine zK_gRl (b := 194) rfl rfl rfl T2 ?_
    refine zK_gI rfl rfl T2 ?_
    exact zK_ret1 rfl T2
  refine zK_ite (fun h9 => ?_) (fun h9 => ?_)
  · rw [h9]
    refine zK_op (k' := 28) rfl (by rfl) ?_
    refine zK_op rfl rfl ?_
    refine zK_gRl (b := 194) rfl rfl rfl T2 ?_
    refine zK_gI rfl rfl T2 ?_
    exact zK_ret1 rfl T2
  refine zK_tswD rfl (by have a0 := zt_ne (0) (v := 0) (by decide) h3; have a1 := zt_ne (1) (v := 1) (by decide) h4; have a2 := zt_ne (2) (v := 2) (by decide) h5; have a3 := zt_ne (3) (v := 3) (by decide) h6; have a4 := zt_ne (4) (v := 4) (by decide) h7; have a5 := zt_ne (5) (v := 5) (by decide) h8; have a6 := zt_ne (6) (v := 6) (by decide) h9; simp only [List.length_cons, List.length_nil]; omega) ?_
  exact zK_thr (c := 14) rfl (by decide) (fun _ => rfl) T2
/-! 127 LogicalTimes.running(I)I -/
def zD127  (a1 : Int32) (μ : xe_Mem) : zO := zq_cV (zD100 μ) fun m1 => zq_cV (zD86 a1 4 m1) fun m3 => zq_x a1 4 fun j5 => some (.inl (some (.int (xe_I m3 202 j5))), m3)
theorem zD127_ok {μ0 : xe_Mem} {δ : xe_Dy} {d : Nat} (hd : 1 ≤ d) (a1 : Int32) (μ : xe_Mem) (hT : zT zPc μ0 μ) : zK zPc μ0 δ d 127 0 (xe_init [.ref 0, .int a1] (xM_L 127)) [] μ (zD127 a1 μ) := by
  unfold zD127
  show zK zPc μ0 δ d 127 0 [some (.ref 0), some (.int a1)] [] μ _
  refine zK_op rfl rfl ?_
  refine zK_cV rfl (as := [.ref 0]) (rest := []) rfl rfl (xe_rcvO (zT_sh hT rfl)) (Nat.le_of_ble_eq_true rfl) (Nat.le_of_ble_eq_true rfl) (by decide) (fun _ => rfl) (by omega) (zD100_ok (by omega) μ hT) (fun m1 T2 => ?_)
  refine zK_op rfl rfl ?_
  refine zK_op rfl rfl ?_
  refine zK_cV rfl (as := [.int a1, .int 4]) (rest := []) rfl rfl rfl (Nat.le_of_ble_eq_true rfl) (Nat.le_of_ble_eq_true rfl) (by decide) (fun _ => rfl) (by omega) (zD86_ok (by omega) a1 4 m1 T2) (fun m3 T4 => ?_)
  refine zK_op rfl rfl ?_
  refine zK_gRl (b := 194) rfl rfl rfl T4 ?_
  refine zK_gRl (b := 202) rfl rfl rfl T4 ?_
  refine zK_op rfl rfl ?_
  refine zK_x (fun j5 h6 h7 h8 => ?_)
  refine zK_aI rfl rfl T4 h6 h7 h8 ?_
  exact zK_ret1 rfl T4
/-! 129 LogicalTimesModel.thrown()I -/
def zD129   (μ : xe_Mem) : zO := some (.inl (some (.int (xe_I μ 203 0))), μ)
theorem zD129_ok {μ0 : xe_Mem} {δ : xe_Dy} {d : Nat} (hd : 0 ≤ d) (μ : xe_Mem) (hT : zT zPr μ0 μ) : zK zPr μ0 δ d 129 0 (xe_init [.ref 203] (xM_L 129)) [] μ (zD129 μ) := by
  unfold zD129
  show zK zPr μ0 δ d 129 0 [some (.ref 203)] [] μ _
  refine zK_op rfl rfl ?_
  refine zK_gI rfl rfl hT ?_
  exact zK_ret1 rfl hT
/-! 130 LogicalTimesModel.feed(IIIII)Z -/
def zD130_35 (c11 : Int32 → Int32 → Int32 → Int32 → Int32 → Int32 → xe_Mem → zO) (v1 : Int32) (v2 : Int32) (v3 : Int32) (v4 : Int32) (v5 : Int32) (v6 : Int32) (s0 : Int32) (μ : xe_Mem) : zO := zq_x ((xe_I μ 203 1) + v6) 3000 fun j5 => zq_m (xe_setI μ 204 j5 ((s0 >>> ((24 - (8 * (v6 - v6 / 4 * 4))) &&& 31)) &&& 255)) fun m9 => c11 v1 v2 v3 v4 v5 (v6 + (1)) m9
def zD130_11_b (c11 : Int32 → Int32 → Int32 → Int32 → Int32 → Int32 → xe_Mem → zO) (v1 : Int32) (v2 : Int32) (v3 : Int32) (v4 : Int32) (v5 : Int32) (v6 : Int32) (μ : xe_Mem) : zO := if 20 ≤ v6 then zq_m (xe_setI μ 203 1 ((xe_I μ 203 1) + 20)) fun m3 => some (.inl (some (.int 1)), m3) else if 4 ≤ v6 then if 8 ≤ v6 then if 12 ≤ v6 then if 16 ≤ v6 then zD130_35 c11 v1 v2 v3 v4 v5 v6 v5 μ else zD130_35 c11 v1 v2 v3 v4 v5 v6 v4 μ else zD130_35 c11 v1 v2 v3 v4 v5 v6 v3 μ else zD130_35 c11 v1 v2 v3 v4 v5 v6 v2 μ else zD130_35 c11 v1 v2 v3 v4 v5 v6 v1 μ
def zD130_11   : Nat → Int32 → Int32 → Int32 → Int32 → Int32 → Int32 → xe_Mem → zO
  | 0 => fun _ _ _ _ _ _ _  => none
  | n + 1 => zD130_11_b   (zD130_11   n)
def zD130  (a1 : Int32) (a2 : Int32) (a3 : Int32) (a4 : Int32) (a5 : Int32) (μ : xe_Mem) : zO := zq_m (xe_setI μ 203 0 0) fun m1 => if (xe_I m1 203 1) = 3000 then some (.inl (some (.int 0)), m1) else zD130_11 zfu a1 a2 a3 a4 a5 0 m1
theorem zD130_35_ok {μ0 : xe_Mem} {δ : xe_Dy} {d : Nat} (hd : 0 ≤ d) {c11 : Int32 → Int32 → Int32 → Int32 → Int32 → Int32 → xe_Mem → zO} (hc11 : ∀ (v1 : Int32) (v2 : Int32) (v3 : Int32) (v4 : Int32) (v5 : Int32) (v6 : Int32) (l7 : Option Value) (μ : xe_Mem), zT zPr μ0 μ → zK zPr μ0 δ d 130 11 [some (.ref 203), some (.int v1), some (.int v2), some (.int v3), some (.int v4), some (.int v5), some (.int v6), l7] [] μ (c11 v1 v2 v3 v4 v5 v6 μ)) : ∀ (v1 : Int32) (v2 : Int32) (v3 : Int32) (v4 : Int32) (v5 : Int32) (v6 : Int32) (s0 : Int32) (l7 : Option Value) (μ : xe_Mem), zT zPr μ0 μ → zK zPr μ0 δ d 130 35 [some (.ref 203), some (.int v1), some (.int v2), some (.int v3), some (.int v4), some (.int v5), some (.int v6), l7] [.int s0] μ (zD130_35  c11 v1 v2 v3 v4 v5 v6 s0 μ) := by
  intro v1 v2 v3 v4 v5 v6 s0 l7 μ hT
  unfold zD130_35
  refine zK_op rfl rfl ?_
  refine zK_op rfl rfl ?_
  refine zK_gRl (b := 204) rfl rfl rfl hT ?_
  refine zK_op rfl rfl ?_
  refine zK_gI rfl rfl hT ?_
  refine zK_op rfl rfl ?_
  refine zK_op rfl rfl ?_
  refine zK_op rfl rfl ?_
  refine zK_op rfl rfl ?_
  refine zK_op rfl rfl ?_
  refine zK_op rfl rfl ?_
  refine zK_op rfl rfl ?_
  refine zK_i2d rfl (by decide) ?_
  refine zK_op rfl rfl ?_
  refine zK_op rfl rfl ?_
  refine zK_op rfl rfl ?_
  refine zK_op rfl rfl ?_
  refine zK_op rfl rfl ?_
  refine zK_x (fun j5 h6 h7 h8 => ?_)
  refine zK_sI (a := 204) (g := (fun x => x)) rfl rfl hT h6 h7 h8 rfl (fun m9 T10 => ?_)
  refine zK_op rfl rfl ?_
  refine zK_op rfl rfl ?_
  exact hc11 v1 v2 v3 v4 v5 (v6 + (1)) _ m9 T10
theorem zD130_11_bok {μ0 : xe_Mem} {δ : xe_Dy} {d : Nat} (hd : 0 ≤ d)  {c11 : Int32 → Int32 → Int32 → Int32 → Int32 → Int32 → xe_Mem → zO} (hc11 : ∀ (v1 : Int32) (v2 : Int32) (v3 : Int32) (v4 : Int32) (v5 : Int32) (v6 : Int32) (l7 : Option Value) (μ : xe_Mem), zT zPr μ0 μ → zK zPr μ0 δ d 130 11 [some (.ref 203), some (.int v1), some (.int v2), some (.int v3), some (.int v4), some (.int v5), some (.int v6), l7] [] μ (c11 v1 v2 v3 v4 v5 v6 μ)) : ∀ (v1 : Int32) (v2 : Int32) (v3 : Int32) (v4 : Int32) (v5 : Int32) (v6 : Int32) (l7 : Option Value) (μ : xe_Mem), zT zPr μ0 μ → zK zPr μ0 δ d 130 11 [some (.ref 203), some (.int v1), some (.int v2), some (.int v3), some (.int v4), some (.int v5), some (.int v6), l7] [] μ (zD130_11_b  c11 v1 v2 v3 v4 v5 v6 μ) := by
  intro v1 v2 v3 v4 v5 v6 l7 μ hT
  unfold zD130_11_b
  refine zK_op rfl rfl ?_
  refine zK_op rfl rfl ?_
  refine zK_icge rfl (fun _ => ?_) (fun _ => ?_)
  · refine zK_op rfl rfl ?_
    refine zK_op rfl rfl ?_
    refine zK_gI rfl rfl hT ?_
    refine zK_op rfl rfl ?_
    refine zK_op rfl rfl ?_
    refine zK_pI rfl rfl hT rfl (fun m3 T4 => ?_)
    refine zK_op rfl rfl ?_
    exact zK_ret3 rfl (Or.inr rfl) T4
  refine zK_op rfl rfl ?_
  refine zK_op rfl rfl ?_
  refine zK_icge rfl (fun _ => ?_) (fun _ => ?_)
  · refine zK_op rfl rfl ?_
    refine zK_op rfl rfl ?_
    refine zK_icge rfl (fun _ => ?_) (fun _ => ?_)
    · refine zK_op rfl rfl ?_
      refine zK_op rfl rfl ?_
      refine zK_icge rfl (fun _ => ?_) (fun _ => ?_)
      · refine zK_op rfl rfl ?_
        refine zK_op rfl rfl ?_
        refine zK_icge rfl (fun _ => ?_) (fun _ => ?_)
        · refine zK_op rfl rfl ?_
          exact zD130_35_ok hd hc11 v1 v2 v3 v4 v5 v6 v5 _ μ hT
        refine zK_op rfl rfl ?_
        refine zK_op rfl rfl ?_
        exact zD130_35_ok hd hc11 v1 v2 v3 v4 v5 v6 v4 _ μ hT
      refine zK_op rfl rfl ?_
      refine zK_op rfl rfl ?_
      exact zD130_35_ok hd hc11 v1 v2 v3 v4 v5 v6 v3 _ μ hT
    refine zK_op rfl rfl ?_
    refine zK_op rfl rfl ?_
    exact zD130_35_ok hd hc11 v1 v2 v3 v4 v5 v6 v2 _ μ hT
  refine zK_op rfl rfl ?_
  refine zK_op rfl rfl ?_
  exact zD130_35_ok hd hc11 v1 v2 v3 v4 v5 v6 v1 _ μ hT
theorem zD130_11_ok {μ0 : xe_Mem} {δ : xe_Dy} {d : Nat} (hd : 0 ≤ d)  : ∀ n : Nat, ∀ (v1 : Int32) (v2 : Int32) (v3 : Int32) (v4 : Int32) (v5 : Int32) (v6 : Int32) (l7 : Option Value) (μ : xe_Mem), zT zPr μ0 μ → zK zPr μ0 δ d 130 11 [some (.ref 203), some (.int v1), some (.int v2), some (.int v3), some (.int v4), some (.int v5), some (.int v6), l7] [] μ (zD130_11  n v1 v2 v3 v4 v5 v6 μ) := by
  intro n
  induction n with
  | zero => exact fun _ _ _ _ _ _ _ _ _  => fun o μ' h => by cases h
  | succ n ih => exact zD130_11_bok hd   ih
theorem zD130_ok {μ0 : xe_Mem} {δ : xe_Dy} {d : Nat} (hd : 0 ≤ d) (a1 : Int32) (a2 : Int32) (a3 : Int32) (a4 : Int32) (a5 : Int32) (μ : xe_Mem) (hT : zT zPr μ0 μ) : zK zPr μ0 δ d 130 0 (xe_init [.ref 203, .int a1, .int a2, .int a3, .int a4, .int a5] (xM_L 130)) [] μ (zD130 a1 a2 a3 a4 a5 μ) := by
  unfold zD130
  show zK zPr μ0 δ d 130 0 [some (.ref 203), some (.int a1), some (.int a2), some (.int a3), some (.int a4), some (.int a5), none, none] [] μ _
  refine zK_op rfl rfl ?_
  refine zK_op rfl rfl ?_
  refine zK_pI rfl rfl hT rfl (fun m1 T2 => ?_)
  refine zK_op rfl rfl ?_
  refine zK_gI rfl rfl T2 ?_
  refine zK_op rfl rfl ?_
  refine zK_icne rfl (fun _ => ?_) (fun _ => ?_)
  · refine zK_op rfl rfl ?_
    exact zK_ret3 rfl (Or.inl rfl) T2
  refine zK_op rfl rfl ?_
  refine zK_op rfl rfl ?_
  exact zD130_11_ok hd zfu a1 a2 a3 a4 a5 0 _ m1 T2
/-! 132 LogicalTimesModel.in(JJJ)Z -/
def zD132_11 (s0 : Int32) (μ : xe_Mem) : zO := zq_z s0 <| some (.inl (some (.int s0)), μ)
def zD132_10 (μ : xe_Mem) : zO := zD132_11 0 μ
def zD132  (a0 : Int64) (a1 : Int64) (a2 : Int64) (μ : xe_Mem) : zO := if (lg_cmp a0 a1) < 0 then zD132_10 μ else if 0 < (lg_cmp a0 a2) then zD132_10 μ else zD132_11 1 μ
theorem zD132_11_ok {μ0 : xe_Mem} {δ : xe_Dy} {d : Nat} (hd : 0 ≤ d)  : ∀ (s0 : Int32) (l0 : Option Value) (l2 : Option Value) (l4 : Option Value) (μ : xe_Mem), zT zPr μ0 μ → zK zPr μ0 δ d 132 11 [l0, none, l2, none, l4, none] [.int s0] μ (zD132_11  s0 μ) := by
  intro s0 l0 l2 l4 μ hT
  unfold zD132_11
  exact zK_ret3z rfl hT
theorem zD132_10_ok {μ0 : xe_Mem} {δ : xe_Dy} {d : Nat} (hd : 0 ≤ d)  : ∀ (l0 : Option Value) (l2 : Option Value) (l4 : Option Value) (μ : xe_Mem), zT zPr μ0 μ → zK zPr μ0 δ d 132 10 [l0, none, l2, none, l4, none] [] μ (zD132_10  μ) := by
  intro l0 l2 l4 μ hT
  unfold zD132_10
  refine zK_op rfl rfl ?_
  exact zD132_11_ok hd 0 _ _ _ μ hT
theorem zD132_ok {μ0 : xe_Mem} {δ : xe_Dy} {d : Nat} (hd : 0 ≤ d) (a0 : Int64) (a1 : Int64) (a2 : Int64) (μ : xe_Mem) (hT : zT zPr μ0 μ) : zK zPr μ0 δ d 132 0 (xe_init [.long a0, .long a1, .long a2] (xM_L 132)) [] μ (zD132 a0 a1 a2 μ) := by
  unfold zD132
  show zK zPr μ0 δ d 132 0 [some (.long a0), none, some (.long a1), none, some (.long a2), none] [] μ _
  refine zK_op rfl rfl ?_
  refine zK_op rfl rfl ?_
  refine zK_op rfl rfl ?_
  refine zK_iflt rfl (fun _ => ?_) (fun _ => ?_)
  · exact zD132_10_ok hd _ _ _ μ hT
  refine zK_op rfl rfl ?_
  refine zK_op rfl rfl ?_
  refine zK_op rfl rfl ?_
  refine zK_ifgt rfl (fun _ => ?_) (fun _ => ?_)
  · exact zD132_10_ok hd _ _ _ μ hT
  refine zK_op rfl rfl ?_
  refine zK_op rfl rfl ?_
  exact zD132_11_ok hd 1 _ _ _ μ hT
/-! 131 LogicalTimesModel.end(I)Z -/
def zD131_15_b (c15 : Int32 → Int32 → xe_Mem → zO) (v1 : Int32) (v2 : Int32) (μ : xe_Mem) : zO := if v1 ≤ v2 then zq_m (xe_setI μ 203 3 v1) fun m6 => zq_m (xe_setI m6 203 1 0) fun m8 => some (.inl (some (.int 1)), m8) else zq_x v2 3000 fun j10 => zq_x v2 3000 fun j14 => zq_m (xe_setI μ 205 j14 (xe_I μ 204 j10)) fun m18 => c15 v1 (v2 + (1)) m18
def zD131_15   : Nat → Int32 → Int32 → xe_Mem → zO
  | 0 => fun _ _ _  => none
  | n + 1 => zD131_15_b   (zD131_15   n)
def zD131  (a1 : Int32) (μ : xe_Mem) : zO := zq_m (xe_setI μ 203 0 0) fun m1 => zq_cI (zD132 a1.toInt64 0 ((xe_I m1 203 1).toInt64) m1) fun x5 m3 => if x5 = 0 then some (.inl (some (.int 0)), m3) else zD131_15 zfu a1 0 m3
theorem zD131_15_bok {μ0 : xe_Mem} {δ : xe_Dy} {d : Nat} (hd : 1 ≤ d)  {c15 : Int32 → Int32 → xe_Mem → zO} (hc15 : ∀ (v1 : Int32) (v2 : Int32) (μ : xe_Mem), zT zPr μ0 μ → zK zPr μ0 δ d 131 15 [some (.ref 203), some (.int v1), some (.int v2)] [] μ (c15 v1 v2 μ)) : ∀ (v1 : Int32) (v2 : Int32) (μ : xe_Mem), zT zPr μ0 μ → zK zPr μ0 δ d 131 15 [some (.ref 203), some (.int v1), some (.int v2)] [] μ (zD131_15_b  c15 v1 v2 μ) := by
  intro v1 v2 μ hT
  unfold zD131_15_b
  refine zK_op rfl rfl ?_
  refine zK_op rfl rfl ?_
  refine zK_icge rfl (fun _ => ?_) (fun _ => ?_)
  · refine zK_op rfl rfl ?_
    refine zK_op rfl rfl ?_
    refine zK_pI rfl rfl hT rfl (fun m6 T7 => ?_)
    refine zK_op rfl rfl ?_
    refine zK_op rfl rfl ?_
    refine zK_pI rfl rfl T7 rfl (fun m8 T9 => ?_)
    refine zK_op rfl rfl ?_
    exact zK_ret3 rfl (Or.inr rfl) T9
  refine zK_op rfl rfl ?_
  refine zK_gRl (b := 205) rfl rfl rfl hT ?_
  refine zK_op rfl rfl ?_
  refine zK_op rfl rfl ?_
  refine zK_gRl (b := 204) rfl rfl rfl hT ?_
  refine zK_op rfl rfl ?_
  refine zK_x (fun j10 h11 h12 h13 => ?_)
  refine zK_aI rfl rfl hT h11 h12 h13 ?_
  refine zK_x (fun j14 h15 h16 h17 => ?_)
  refine zK_sI (a := 205) (g := (fun x => x)) rfl rfl hT h15 h16 h17 rfl (fun m18 T19 => ?_)
  refine zK_op rfl rfl ?_
  refine zK_op rfl rfl ?_
  exact hc15 v1 (v2 + (1)) m18 T19
theorem zD131_15_ok {μ0 : xe_Mem} {δ : xe_Dy} {d : Nat} (hd : 1 ≤ d)  : ∀ n : Nat, ∀ (v1 : Int32) (v2 : Int32) (μ : xe_Mem), zT zPr μ0 μ → zK zPr μ0 δ d 131 15 [some (.ref 203), some (.int v1), some (.int v2)] [] μ (zD131_15  n v1 v2 μ) := by
  intro n
  induction n with
  | zero => exact fun _ _ _ _  => fun o μ' h => by cases h
  | succ n ih => exact zD131_15_bok hd   ih
theorem zD131_ok {μ0 : xe_Mem} {δ : xe_Dy} {d : Nat} (hd : 1 ≤ d) (a1 : Int32) (μ : xe_Mem) (hT : zT zPr μ0 μ) : zK zPr μ0 δ d 131 0 (xe_init [.ref 203, .int a1] (xM_L 131)) [] μ (zD131 a1 μ) := by
  unfold zD131
  show zK zPr μ0 δ d 131 0 [some (.ref 203), some (.int a1), none] [] μ _
  refine zK_op rfl rfl ?_
  refine zK_op rfl rfl ?_
  refine zK_pI rfl rfl hT rfl (fun m1 T2 => ?_)
  refine zK_op rfl rfl ?_
  refine zK_op rfl rfl ?_
  refine zK_op rfl rfl ?_
  refine zK_op rfl rfl ?_
  refine zK_gI rfl rfl T2 ?_
  refine zK_op rfl rfl ?_
  refine zK_cI rfl (as := [.long a1.toInt64, .long 0, .long ((xe_I m1 203 1).toInt64)]) (rest := []) rfl rfl rfl (Nat.le_of_ble_eq_true rfl) (Nat.le_of_ble_eq_true rfl) (by decide) (fun _ => rfl) (by omega) (zD132_ok (by omega) a1.toInt64 0 ((xe_I m1 203 1).toInt64) m1 T2) (fun x5 m3 T4 => ?_)
  refine zK_ifne rfl (fun _ => ?_) (fun _ => ?_)
  · refine zK_op rfl rfl ?_
    exact zK_ret3 rfl (Or.inl rfl) T4
  refine zK_op rfl rfl ?_
  refine zK_op rfl rfl ?_
  exact zD131_15_ok hd zfu a1 0 m3 T4
/-! 135 LogicalTimesModel.token(IIJ)V -/
def zD135  (a1 : Int32) (a2 : Int32) (a3 : Int64) (μ : xe_Mem) : zO := zq_x (xe_I μ 203 6) 3002 fun j1 => zq_m (xe_setI μ 207 j1 a1) fun m5 => zq_x (xe_I m5 203 6) 3002 fun j7 => zq_m (xe_setI m5 208 j7 a2) fun m11 => zq_x (xe_I m11 203 6) 3002 fun j13 => zq_m (xe_setL m11 209 j13 a3) fun m17 => zq_m (xe_setI m17 203 6 ((xe_I m17 203 6) + 1)) fun m19 => some (.inl none, m19)
theorem zD135_ok {μ0 : xe_Mem} {δ : xe_Dy} {d : Nat} (hd : 0 ≤ d) (a1 : Int32) (a2 : Int32) (a3 : Int64) (μ : xe_Mem) (hT : zT zPr μ0 μ) : zK zPr μ0 δ d 135 0 (xe_init [.ref 203, .int a1, .int a2, .long a3] (xM_L 135)) [] μ (zD135 a1 a2 a3 μ) := by
  unfold zD135
  show zK zPr μ0 δ d 135 0 [some (.ref 203), some (.int a1), some (.int a2), some (.long a3), none] [] μ _
  refine zK_op rfl rfl ?_
  refine zK_gRl (b := 207) rfl rfl rfl hT ?_
  refine zK_op rfl rfl ?_
  refine zK_gI rfl rfl hT ?_
  refine zK_op rfl rfl ?_
  refine zK_x (fun j1 h2 h3 h4 => ?_)
  refine zK_sI (a := 207) (g := (fun x => x)) rfl rfl hT h2 h3 h4 rfl (fun m5 T6 => ?_)
  refine zK_op rfl rfl ?_
  refine zK_gRl (b := 208) rfl rfl rfl T6 ?_
  refine zK_op rfl rfl ?_
  refine zK_gI rfl rfl T6 ?_
  refine zK_op rfl rfl ?_
  refine zK_x (fun j7 h8 h9 h10 => ?_)
  refine zK_sI (a := 208) (g := (fun x => x)) rfl rfl T6 h8 h9 h10 rfl (fun m11 T12 => ?_)
  refine zK_op rfl rfl ?_
  refine zK_gRl (b := 209) rfl rfl rfl T12 ?_
  refine zK_op rfl rfl ?_
  refine zK_gI rfl rfl T12 ?_
  refine zK_op rfl rfl ?_
  refine zK_x (fun j13 h14 h15 h16 => ?_)
  refine zK_sL rfl rfl T12 h14 h15 h16 rfl (fun m17 T18 => ?_)
  refine zK_op rfl rfl ?_
  refine zK_op rfl rfl ?_
  refine zK_gI rfl rfl T18 ?_
  refine zK_op rfl rfl ?_
  refine zK_op rfl rfl ?_
  refine zK_pI rfl rfl T18 rfl (fun m19 T20 => ?_)
  exact zK_ret0 rfl T20
