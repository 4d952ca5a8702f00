/-! methods as functions (by wip/whole/gen/dec.py) -/
/-! 67 LogicalTimes$Reader.placeAtHand()I -/
def zD67   (μ : xe_Mem) : zO := zq_x (xe_I μ 181 6) 3001 fun j1 => some (.inl (some (.int (xe_I μ 5 j1))), μ)
theorem zD67_ok {μ0 : xe_Mem} {δ : xe_Dy} {d : Nat} (hd : 0 ≤ d) (μ : xe_Mem) (hT : zT zPc μ0 μ) : zK zPc μ0 δ d 67 0 (xe_init [.ref 181] (xM_L 67)) [] μ (zD67 μ) := by
  unfold zD67
  show zK zPc μ0 δ d 67 0 [some (.ref 181)] [] μ _
  refine zK_op rfl rfl ?_
  refine zK_gRl (b := 3) rfl rfl rfl hT ?_
  refine zK_gRl (b := 5) rfl rfl rfl hT ?_
  refine zK_op rfl rfl ?_
  refine zK_gI rfl rfl hT ?_
  refine zK_x (fun j1 h2 h3 h4 => ?_)
  refine zK_aI rfl rfl hT h2 h3 h4 ?_
  exact zK_ret1 rfl hT
/-! 70 LogicalTimes$Program.isUsedElsewhere(II)Z -/
def zD70_31 (c2 : Int32 → Int32 → Int32 → xe_Mem → zO) (v1 : Int32) (v2 : Int32) (v3 : Int32) (μ : xe_Mem) : zO := c2 v1 v2 (v3 + (1)) μ
def zD70_2_b (c2 : Int32 → Int32 → Int32 → xe_Mem → zO) (v1 : Int32) (v2 : Int32) (v3 : Int32) (μ : xe_Mem) : zO := if (xe_I μ 7 7) ≤ v3 then some (.inl (some (.int 0)), μ) else zq_x v3 24 fun j1 => zq_s (xe_R μ 16 j1) fun b5 => zq_o b5 8 <| if (xe_I μ b5 2) = v2 then zD70_31 c2 v1 v2 v3 μ else zq_x v3 24 fun j7 => zq_s (xe_R μ 16 j7) fun b11 => zq_o b11 8 <| zq_x v3 24 fun j13 => zq_s (xe_R μ 16 j13) fun b17 => zq_o b17 8 <| if ((((xe_I μ b11 7) ||| (xe_I μ b17 6)) >>> (v1 &&& 31)) &&& 1) = 0 then zD70_31 c2 v1 v2 v3 μ else some (.inl (some (.int 1)), μ)
def zD70_2   : Nat → Int32 → Int32 → Int32 → xe_Mem → zO
  | 0 => fun _ _ _ _  => none
  | n + 1 => zD70_2_b   (zD70_2   n)
def zD70  (a1 : Int32) (a2 : Int32) (μ : xe_Mem) : zO := zD70_2 zfu a1 a2 0 μ
theorem zD70_31_ok {μ0 : xe_Mem} {δ : xe_Dy} {d : Nat} (hd : 0 ≤ d) {c2 : Int32 → Int32 → Int32 → xe_Mem → zO} (hc2 : ∀ (v1 : Int32) (v2 : Int32) (v3 : Int32) (μ : xe_Mem), zT zPc μ0 μ → zK zPc μ0 δ d 70 2 [some (.ref 7), some (.int v1), some (.int v2), some (.int v3)] [] μ (c2 v1 v2 v3 μ)) : ∀ (v1 : Int32) (v2 : Int32) (v3 : Int32) (μ : xe_Mem), zT zPc μ0 μ → zK zPc μ0 δ d 70 31 [some (.ref 7), some (.int v1), some (.int v2), some (.int v3)] [] μ (zD70_31  c2 v1 v2 v3 μ) := by
  intro v1 v2 v3 μ hT
  unfold zD70_31
  refine zK_op rfl rfl ?_
  refine zK_op rfl rfl ?_
  exact hc2 v1 v2 (v3 + (1)) μ hT
theorem zD70_2_bok {μ0 : xe_Mem} {δ : xe_Dy} {d : Nat} (hd : 0 ≤ d)  {c2 : Int32 → Int32 → Int32 → xe_Mem → zO} (hc2 : ∀ (v1 : Int32) (v2 : Int32) (v3 : Int32) (μ : xe_Mem), zT zPc μ0 μ → zK zPc μ0 δ d 70 2 [some (.ref 7), some (.int v1), some (.int v2), some (.int v3)] [] μ (c2 v1 v2 v3 μ)) : ∀ (v1 : Int32) (v2 : Int32) (v3 : Int32) (μ : xe_Mem), zT zPc μ0 μ → zK zPc μ0 δ d 70 2 [some (.ref 7), some (.int v1), some (.int v2), some (.int v3)] [] μ (zD70_2_b  c2 v1 v2 v3 μ) := by
  intro v1 v2 v3 μ hT
  unfold zD70_2_b
  refine zK_op rfl rfl ?_
  refine zK_op rfl rfl ?_
  refine zK_gI rfl rfl hT ?_
  refine zK_icge rfl (fun _ => ?_) (fun _ => ?_)
  · refine zK_op rfl rfl ?_
    exact zK_ret3 rfl (Or.inl rfl) hT
  refine zK_op rfl rfl ?_
  refine zK_gRl (b := 16) rfl rfl rfl hT ?_
  refine zK_op rfl rfl ?_
  refine zK_x (fun j1 h2 h3 h4 => ?_)
  refine zK_aR rfl rfl hT h2 h3 h4 (fun b5 => ?_)
  refine zK_o (fun h6 ph6 => ?_)
  refine zK_gI rfl h6 hT ?_
  refine zK_op rfl rfl ?_
  refine zK_iceq rfl (fun _ => ?_) (fun _ => ?_)
  · exact zD70_31_ok hd hc2 v1 v2 v3 μ hT
  refine zK_op rfl rfl ?_
  refine zK_gRl (b := 16) rfl rfl rfl hT ?_
  refine zK_op rfl rfl ?_
  refine zK_x (fun j7 h8 h9 h10 => ?_)
  refine zK_aR rfl rfl hT h8 h9 h10 (fun b11 => ?_)
  refine zK_o (fun h12 ph12 => ?_)
  refine zK_gI rfl h12 hT ?_
  refine zK_op rfl rfl ?_
  refine zK_gRl (b := 16) rfl rfl rfl hT ?_
  refine zK_op rfl rfl ?_
  refine zK_x (fun j13 h14 h15 h16 => ?_)
  refine zK_aR rfl rfl hT h14 h15 h16 (fun b17 => ?_)
  refine zK_o (fun h18 ph18 => ?_)
  refine zK_gI rfl h18 hT ?_
  refine zK_op rfl rfl ?_
  refine zK_op rfl rfl ?_
  refine zK_op rfl rfl ?_
  refine zK_op rfl rfl ?_
  refine zK_op rfl rfl ?_
  refine zK_ifeq rfl (fun _ => ?_) (fun _ => ?_)
  · exact zD70_31_ok hd hc2 v1 v2 v3 μ hT
  refine zK_op rfl rfl ?_
  exact zK_ret3 rfl (Or.inr rfl) hT
theorem zD70_2_ok {μ0 : xe_Mem} {δ : xe_Dy} {d : Nat} (hd : 0 ≤ d)  : ∀ n : Nat, ∀ (v1 : Int32) (v2 : Int32) (v3 : Int32) (μ : xe_Mem), zT zPc μ0 μ → zK zPc μ0 δ d 70 2 [some (.ref 7), some (.int v1), some (.int v2), some (.int v3)] [] μ (zD70_2  n v1 v2 v3 μ) := by
  intro n
  induction n with
  | zero => exact fun _ _ _ _ _  => fun o μ' h => by cases h
  | succ n ih => exact zD70_2_bok hd   ih
theorem zD70_ok {μ0 : xe_Mem} {δ : xe_Dy} {d : Nat} (hd : 0 ≤ d) (a1 : Int32) (a2 : Int32) (μ : xe_Mem) (hT : zT zPc μ0 μ) : zK zPc μ0 δ d 70 0 (xe_init [.ref 7, .int a1, .int a2] (xM_L 70)) [] μ (zD70 a1 a2 μ) := by
  unfold zD70
  show zK zPc μ0 δ d 70 0 [some (.ref 7), some (.int a1), some (.int a2), none] [] μ _
  refine zK_op rfl rfl ?_
  refine zK_op rfl rfl ?_
  exact zD70_2_ok hd zfu a1 a2 0 μ hT
/-! 69 LogicalTimes$Program.countMessages(LLogicalTimes$Mode;)V -/
def zD69_42 (c13 : Nat → Int32 → Nat → Int32 → xe_Mem → zO) (v1 : Nat) (v2 : Int32) (v3 : Nat) (v4 : Int32) (μ : xe_Mem) : zO := c13 v1 v2 v3 (v4 + (1)) μ
def zD69_13_b (c2 : Nat → Int32 → xe_Mem → zO) (c13 : Nat → Int32 → Nat → Int32 → xe_Mem → zO) (v1 : Nat) (v2 : Int32) (v3 : Nat) (v4 : Int32) (μ : xe_Mem) : zO := if (xe_I μ 7 4) ≤ v4 then zq_o v1 2 <| zq_o v3 8 <| zq_m (xe_setI μ v3 12 (xe_I μ v1 10)) fun m12 => zq_d (xe_I m12 v3 3) <| zq_m (xe_setI m12 v1 10 ((xe_I m12 v1 10) + (((xe_I m12 v1 1) / (xe_I m12 v3 3)) * (xe_I m12 v3 11)))) fun m15 => c2 v1 (v2 + (1)) m15 else zq_o v3 8 <| if (((xe_I μ v3 6) >>> (v4 &&& 31)) &&& 1) = 0 then zD69_42 c13 v1 v2 v3 v4 μ else zq_cI (zD70 v4 (xe_I μ v3 2) μ) fun x20 m18 => if x20 = 0 then zD69_42 c13 v1 v2 v3 v4 m18 else zq_s (xe_R m18 v3 10) fun b21 => zq_a b21 0 fun N23 => zq_x (xe_I m18 v3 11) N23 fun j24 => zq_m (xe_setI m18 b21 j24 v4) fun m28 => zq_m (xe_setI m28 v3 11 ((xe_I m28 v3 11) + 1)) fun m30 => zD69_42 c13 v1 v2 v3 v4 m30
def zD69_13  (c2 : Nat → Int32 → xe_Mem → zO) : Nat → Nat → Int32 → Nat → Int32 → xe_Mem → zO
  | 0 => fun _ _ _ _ _  => none
  | n + 1 => zD69_13_b  c2 (zD69_13  c2 n)
def zD69_2_b (c2 : Nat → Int32 → xe_Mem → zO) (v1 : Nat) (v2 : Int32) (μ : xe_Mem) : zO := zq_o v1 2 <| if (xe_I μ v1 3) ≤ v2 then some (.inl none, μ) else zq_s (xe_R μ v1 2) fun b2 => zq_a b2 4 fun N4 => zq_x v2 N4 fun j5 => zq_s (xe_R μ b2 j5) fun b9 => zD69_13 c2 zfu v1 v2 b9 0 μ
def zD69_2   : Nat → Nat → Int32 → xe_Mem → zO
  | 0 => fun _ _ _  => none
  | n + 1 => zD69_2_b   (zD69_2   n)
def zD69  (a1 : Nat) (μ : xe_Mem) : zO := zD69_2 zfu a1 0 μ
theorem zD69_42_ok {μ0 : xe_Mem} {δ : xe_Dy} {d : Nat} (hd : 1 ≤ d) {c13 : Nat → Int32 → Nat → Int32 → xe_Mem → zO} (hc13 : ∀ (v1 : Nat) (v2 : Int32) (v3 : Nat) (v4 : Int32) (μ : xe_Mem), zT zPc μ0 μ → zK zPc μ0 δ d 69 13 [some (.ref 7), some (.ref v1), some (.int v2), some (.ref v3), some (.int v4)] [] μ (c13 v1 v2 v3 v4 μ)) : ∀ (v1 : Nat) (v2 : Int32) (v3 : Nat) (v4 : Int32) (μ : xe_Mem), zT zPc μ0 μ → zK zPc μ0 δ d 69 42 [some (.ref 7), some (.ref v1), some (.int v2), some (.ref v3), some (.int v4)] [] μ (zD69_42  c13 v1 v2 v3 v4 μ) := by
  intro v1 v2 v3 v4 μ hT
  unfold zD69_42
  refine zK_op rfl rfl ?_
  refine zK_op rfl rfl ?_
  exact hc13 v1 v2 v3 (v4 + (1)) μ hT
theorem zD69_13_bok {μ0 : xe_Mem} {δ : xe_Dy} {d : Nat} (hd : 1 ≤ d) {c2 : Nat → Int32 → xe_Mem → zO} (hc2 : ∀ (v1 : Nat) (v2 : Int32) (l3 : Option Value) (l4 : Option Value) (μ : xe_Mem), zT zPc μ0 μ → zK zPc μ0 δ d 69 2 [some (.ref 7), some (.ref v1), some (.int v2), l3, l4] [] μ (c2 v1 v2 μ)) {c13 : Nat → Int32 → Nat → Int32 → xe_Mem → zO} (hc13 : ∀ (v1 : Nat) (v2 : Int32) (v3 : Nat) (v4 : Int32) (μ : xe_Mem), zT zPc μ0 μ → zK zPc μ0 δ d 69 13 [some (.ref 7), some (.ref v1), some (.int v2), some (.ref v3), some (.int v4)] [] μ (c13 v1 v2 v3 v4 μ)) : ∀ (v1 : Nat) (v2 : Int32) (v3 : Nat) (v4 : Int32) (μ : xe_Mem), zT zPc μ0 μ → zK zPc μ0 δ d 69 13 [some (.ref 7), some (.ref v1), some (.int v2), some (.ref v3), some (.int v4)] [] μ (zD69_13_b  c2 c13 v1 v2 v3 v4 μ) := by
  intro v1 v2 v3 v4 μ hT
  unfold zD69_13_b
  refine zK_op rfl rfl ?_
  refine zK_op rfl rfl ?_
  refine zK_gI rfl rfl hT ?_
  refine zK_icge rfl (fun _ => ?_) (fun _ => ?_)
  · refine zK_op rfl rfl ?_
    refine zK_op rfl rfl ?_
    refine zK_o (fun h10 ph10 => ?_)
    refine zK_gI rfl h10 hT ?_
    refine zK_o (fun h11 ph11 => ?_)
    refine zK_pI rfl h11 hT ph11 (fun m12 T13 => ?_)
    refine zK_op rfl rfl ?_
    refine zK_op rfl rfl ?_
    refine zK_gI rfl h10 T13 ?_
    refine zK_op rfl rfl ?_
    refine zK_gI rfl h10 T13 ?_
    refine zK_op rfl rfl ?_
    refine zK_gI rfl h11 T13 ?_
    refine zK_dv (fun h14 => ?_)
    refine zK_i2d rfl h14 ?_
    refine zK_op rfl rfl ?_
    refine zK_gI rfl h11 T13 ?_
    refine zK_op rfl rfl ?_
    refine zK_op rfl rfl ?_
    refine zK_pI rfl h10 T13 ph10 (fun m15 T16 => ?_)
    refine zK_op rfl rfl ?_
    refine zK_op rfl rfl ?_
    exact hc2 v1 (v2 + (1)) _ _ m15 T16
  refine zK_op rfl rfl ?_
  refine zK_o (fun h17 ph17 => ?_)
  refine zK_gI rfl h17 hT ?_
  refine zK_op rfl rfl ?_
  refine zK_op rfl rfl ?_
  refine zK_op rfl rfl ?_
  refine zK_op rfl rfl ?_
  refine zK_ifeq rfl (fun _ => ?_) (fun _ => ?_)
  · exact zD69_42_ok hd hc13 v1 v2 v3 v4 μ hT
  refine zK_op rfl rfl ?_
  refine zK_op rfl rfl ?_
  refine zK_op rfl rfl ?_
  refine zK_gI rfl h17 hT ?_
  refine zK_cI rfl (as := [.ref 7, .int v4, .int (xe_I μ v3 2)]) (rest := []) rfl rfl (xe_rcvO (zT_sh hT rfl)) (Nat.le_of_ble_eq_true rfl) (Nat.le_of_ble_eq_true rfl) (by decide) (fun _ => rfl) (by omega) (zD70_ok (by omega) v4 (xe_I μ v3 2) μ hT) (fun x20 m18 T19 => ?_)
  refine zK_ifeq rfl (fun _ => ?_) (fun _ => ?_)
  · exact zD69_42_ok hd hc13 v1 v2 v3 v4 m18 T19
  refine zK_op rfl rfl ?_
  refine zK_gRs rfl h17 T19 (fun b21 => ?_)
  refine zK_op rfl rfl ?_
  refine zK_gI rfl h17 T19 ?_
  refine zK_op rfl rfl ?_
  refine zK_a (fun N23 h22 ph22 => ?_)
  refine zK_x (fun j24 h25 h26 h27 => ?_)
  refine zK_sI (a := b21) (g := (fun x => x)) rfl h22 T19 h25 h26 h27 ph22 (fun m28 T29 => ?_)
  refine zK_op rfl rfl ?_
  refine zK_op rfl rfl ?_
  refine zK_gI rfl h17 T29 ?_
  refine zK_op rfl rfl ?_
  refine zK_op rfl rfl ?_
  refine zK_pI rfl h17 T29 ph17 (fun m30 T31 => ?_)
  exact zD69_42_ok hd hc13 v1 v2 v3 v4 m30 T31
theorem zD69_13_ok {μ0 : xe_Mem} {δ : xe_Dy} {d : Nat} (hd : 1 ≤ d) {c2 : Nat → Int32 → xe_Mem → zO} (hc2 : ∀ (v1 : Nat) (v2 : Int32) (l3 : Option Value) (l4 : Option Value) (μ : xe_Mem), zT zPc μ0 μ → zK zPc μ0 δ d 69 2 [some (.ref 7), some (.ref v1), some (.int v2), l3, l4] [] μ (c2 v1 v2 μ)) : ∀ n : Nat, ∀ (v1 : Nat) (v2 : Int32) (v3 : Nat) (v4 : Int32) (μ : xe_Mem), zT zPc μ0 μ → zK zPc μ0 δ d 69 13 [some (.ref 7), some (.ref v1), some (.int v2), some (.ref v3), some (.int v4)] [] μ (zD69_13  c2 n v1 v2 v3 v4 μ) := by
  intro n
  induction n with
  | zero => exact fun _ _ _ _ _ _  => fun o μ' h => by cases h
  | succ n ih => exact zD69_13_bok hd  hc2 ih
theorem zD69_2_bok {μ0 : xe_Mem} {δ : xe_Dy} {d : Nat} (hd : 1 ≤ d)  {c2 : Nat → Int32 → xe_Mem → zO} (hc2 : ∀ (v1 : Nat) (v2 : Int32) (l3 : Option Value) (l4 : Option Value) (μ : xe_Mem), zT zPc μ0 μ → zK zPc μ0 δ d 69 2 [some (.ref 7), some (.ref v1), some (.int v2), l3, l4] [] μ (c2 v1 v2 μ)) : ∀ (v1 : Nat) (v2 : Int32) (l3 : Option Value) (l4 : Option Value) (μ : xe_Mem), zT zPc μ0 μ → zK zPc μ0 δ d 69 2 [some (.ref 7), some (.ref v1), some (.int v2), l3, l4] [] μ (zD69_2_b  c2 v1 v2 μ) := by
  intro v1 v2 l3 l4 μ hT
  unfold zD69_2_b
  refine zK_op rfl rfl ?_
  refine zK_op rfl rfl ?_
  refine zK_o (fun h1 ph1 => ?_)
  refine zK_gI rfl h1 hT ?_
  refine zK_icge rfl (fun _ => ?_) (fun _ => ?_)
  · exact zK_ret0 rfl hT
  refine zK_op rfl rfl ?_
  refine zK_gRs rfl h1 hT (fun b2 => ?_)
  refine zK_op rfl rfl ?_
  refine zK_a (fun N4 h3 ph3 => ?_)
  refine zK_x (fun j5 h6 h7 h8 => ?_)
  refine zK_aR rfl h3 hT h6 h7 h8 (fun b9 => ?_)
  refine zK_op rfl rfl ?_
  refine zK_op rfl rfl ?_
  refine zK_op rfl rfl ?_
  exact zD69_13_ok hd hc2 zfu v1 v2 b9 0 μ hT
theorem zD69_2_ok {μ0 : xe_Mem} {δ : xe_Dy} {d : Nat} (hd : 1 ≤ d)  : ∀ n : Nat, ∀ (v1 : Nat) (v2 : Int32) (l3 : Option Value) (l4 : Option Value) (μ : xe_Mem), zT zPc μ0 μ → zK zPc μ0 δ d 69 2 [some (.ref 7), some (.ref v1), some (.int v2), l3, l4] [] μ (zD69_2  n v1 v2 μ) := by
  intro n
  induction n with
  | zero => exact fun _ _ _ _ _ _  => fun o μ' h => by cases h
  | succ n ih => exact zD69_2_bok hd   ih
theorem zD69_ok {μ0 : xe_Mem} {δ : xe_Dy} {d : Nat} (hd : 1 ≤ d) (a1 : Nat) (μ : xe_Mem) (hT : zT zPc μ0 μ) : zK zPc μ0 δ d 69 0 (xe_init [.ref 7, .ref a1] (xM_L 69)) [] μ (zD69 a1 μ) := by
  unfold zD69
  show zK zPc μ0 δ d 69 0 [some (.ref 7), some (.ref a1), none, none, none] [] μ _
  refine zK_op rfl rfl ?_
  refine zK_op rfl rfl ?_
  exact zD69_2_ok hd zfu a1 0 _ _ μ hT
/-! 73 java/util/Arrays.fill([II)V -/
def zD73_5_b (c5 : Nat → Int32 → Int32 → Int32 → xe_Mem → zO) (v0 : Nat) (v1 : Int32) (v2 : Int32) (v3 : Int32) (μ : xe_Mem) : zO := if v3 ≤ v2 then some (.inl none, μ) else zq_a v0 0 fun N5 => zq_x v2 N5 fun j6 => zq_m (xe_setI μ v0 j6 v1) fun m10 => c5 v0 v1 (v2 + (1)) v3 m10
def zD73_5   : Nat → Nat → Int32 → Int32 → Int32 → xe_Mem → zO
  | 0 => fun _ _ _ _ _  => none
  | n + 1 => zD73_5_b   (zD73_5   n)
def zD73  (a0 : Nat) (a1 : Int32) (μ : xe_Mem) : zO := zq_a a0 0 fun N2 => zq_vI (Int32.ofNat N2) fun x3 => zD73_5 zfu a0 a1 0 x3 μ
theorem zD73_5_bok {μ0 : xe_Mem} {δ : xe_Dy} {d : Nat} (hd : 0 ≤ d)  {c5 : Nat → Int32 → Int32 → Int32 → xe_Mem → zO} (hc5 : ∀ (v0 : Nat) (v1 : Int32) (v2 : Int32) (v3 : Int32) (μ : xe_Mem), zT zPc μ0 μ → zK zPc μ0 δ d 73 5 [some (.ref v0), some (.int v1), some (.int v2), some (.int v3)] [] μ (c5 v0 v1 v2 v3 μ)) : ∀ (v0 : Nat) (v1 : Int32) (v2 : Int32) (v3 : Int32) (μ : xe_Mem), zT zPc μ0 μ → zK zPc μ0 δ d 73 5 [some (.ref v0), some (.int v1), some (.int v2), some (.int v3)] [] μ (zD73_5_b  c5 v0 v1 v2 v3 μ) := by
  intro v0 v1 v2 v3 μ hT
  unfold zD73_5_b
  refine zK_op rfl rfl ?_
  refine zK_op rfl rfl ?_
  refine zK_icge rfl (fun _ => ?_) (fun _ => ?_)
  · exact zK_ret0 rfl hT
  refine zK_op rfl rfl ?_
  refine zK_op rfl rfl ?_
  refine zK_op rfl rfl ?_
  refine zK_a (fun N5 h4 ph4 => ?_)
  refine zK_x (fun j6 h7 h8 h9 => ?_)
  refine zK_sI (a := v0) (g := (fun x => x)) rfl h4 hT h7 h8 h9 ph4 (fun m10 T11 => ?_)
  refine zK_op rfl rfl ?_
  refine zK_op rfl rfl ?_
  exact hc5 v0 v1 (v2 + (1)) v3 m10 T11
theorem zD73_5_ok {μ0 : xe_Mem} {δ : xe_Dy} {d : Nat} (hd : 0 ≤ d)  : ∀ n : Nat, ∀ (v0 : Nat) (v1 : Int32) (v2 : Int32) (v3 : Int32) (μ : xe_Mem), zT zPc μ0 μ → zK zPc μ0 δ d 73 5 [some (.ref v0), some (.int v1), some (.int v2), some (.int v3)] [] μ (zD73_5  n v0 v1 v2 v3 μ) := by
  intro n
  induction n with
  | zero => exact fun _ _ _ _ _ _  => fun o μ' h => by cases h
  | succ n ih => exact zD73_5_bok hd   ih
theorem zD73_ok {μ0 : xe_Mem} {δ : xe_Dy} {d : Nat} (hd : 0 ≤ d) (a0 : Nat) (a1 : Int32) (μ : xe_Mem) (hT : zT zPc μ0 μ) : zK zPc μ0 δ d 73 0 (xe_init [.ref a0, .int a1] (xM_L 73)) [] μ (zD73 a0 a1 μ) := by
  unfold zD73
  show zK zPc μ0 δ d 73 0 [some (.ref a0), some (.int a1), none, none] [] μ _
  refine zK_op rfl rfl ?_
  refine zK_op rfl rfl ?_
  refine zK_op rfl rfl ?_
  refine zK_a (fun N2 h1 ph1 => ?_)
  refine zK_alen rfl h1 (by decide) hT ?_
  refine zK_vI (fun x3 => ?_)
  refine zK_op rfl rfl ?_
  exact zD73_5_ok hd zfu a0 a1 0 x3 μ hT
/-! 72 LogicalTimes$Mode.loseSlots()V -/
def zD72_6_b (c6 : Nat → Int32 → xe_Mem → zO) (v0 : Nat) (v1 : Int32) (μ : xe_Mem) : zO := zq_o v0 2 <| zq_s (xe_R μ v0 8) fun b6 => zq_a b6 4 fun N8 => if (Int32.ofNat N8) ≤ v1 then some (.inl none, μ) else zq_s (xe_R μ v0 8) fun b9 => zq_a b9 4 fun N11 => zq_x v1 N11 fun j12 => zq_w b9 j12 <| zq_m (xe_setR μ b9 j12 none) fun m16 => c6 v0 (v1 + (1)) m16
def zD72_6   : Nat → Nat → Int32 → xe_Mem → zO
  | 0 => fun _ _ _  => none
  | n + 1 => zD72_6_b   (zD72_6   n)
def zD72  (a0 : Nat) (μ : xe_Mem) : zO := zq_o a0 2 <| zq_s (xe_R μ a0 11) fun b2 => zq_cV (zD73 b2 ((-1)) μ) fun m3 => zD72_6 zfu a0 0 m3
theorem zD72_6_bok {μ0 : xe_Mem} {δ : xe_Dy} {d : Nat} (hd : 1 ≤ d)  {c6 : Nat → Int32 → xe_Mem → zO} (hc6 : ∀ (v0 : Nat) (v1 : Int32) (μ : xe_Mem), zT zPc μ0 μ → zK zPc μ0 δ d 72 6 [some (.ref v0), some (.int v1)] [] μ (c6 v0 v1 μ)) : ∀ (v0 : Nat) (v1 : Int32) (μ : xe_Mem), zT zPc μ0 μ → zK zPc μ0 δ d 72 6 [some (.ref v0), some (.int v1)] [] μ (zD72_6_b  c6 v0 v1 μ) := by
  intro v0 v1 μ hT
  unfold zD72_6_b
  refine zK_op rfl rfl ?_
  refine zK_op rfl rfl ?_
  refine zK_o (fun h5 ph5 => ?_)
  refine zK_gRs rfl h5 hT (fun b6 => ?_)
  refine zK_a (fun N8 h7 ph7 => ?_)
  refine zK_alen rfl h7 (by decide) hT ?_
  refine zK_icge rfl (fun _ => ?_) (fun _ => ?_)
  · exact zK_ret0 rfl hT
  refine zK_op rfl rfl ?_
  refine zK_gRs rfl h5 hT (fun b9 => ?_)
  refine zK_op rfl rfl ?_
  refine zK_op rfl rfl ?_
  refine zK_a (fun N11 h10 ph10 => ?_)
  refine zK_x (fun j12 h13 h14 h15 => ?_)
  refine zK_w (fun h18 => ?_)
  refine zK_sN rfl h10 hT h13 h14 h15 h18 ph10 (fun m16 T17 => ?_)
  refine zK_op rfl rfl ?_
  refine zK_op rfl rfl ?_
  exact hc6 v0 (v1 + (1)) m16 T17
theorem zD72_6_ok {μ0 : xe_Mem} {δ : xe_Dy} {d : Nat} (hd : 1 ≤ d)  : ∀ n : Nat, ∀ (v0 : Nat) (v1 : Int32) (μ : xe_Mem), zT zPc μ0 μ → zK zPc μ0 δ d 72 6 [some (.ref v0), some (.int v1)] [] μ (zD72_6  n v0 v1 μ) := by
  intro n
  induction n with
  | zero => exact fun _ _ _ _  => fun o μ' h => by cases h
  | succ n ih => exact zD72_6_bok hd   ih
theorem zD72_ok {μ0 : xe_Mem} {δ : xe_Dy} {d : Nat} (hd : 1 ≤ d) (a0 : Nat) (μ : xe_Mem) (hT : zT zPc μ0 μ) : zK zPc μ0 δ d 72 0 (xe_init [.ref a0] (xM_L 72)) [] μ (zD72 a0 μ) := by
  unfold zD72
  show zK zPc μ0 δ d 72 0 [some (.ref a0), none] [] μ _
  refine zK_op rfl rfl ?_
  refine zK_o (fun h1 ph1 => ?_)
  refine zK_gRs rfl h1 hT (fun b2 => ?_)
  refine zK_op rfl rfl ?_
  refine zK_cV rfl (as := [.ref b2, .int ((-1))]) (rest := []) rfl rfl rfl (Nat.le_of_ble_eq_true rfl) (Nat.le_of_ble_eq_true rfl) (by decide) (fun _ => rfl) (by omega) (zD73_ok (by omega) b2 ((-1)) μ hT) (fun m3 T4 => ?_)
  refine zK_op rfl rfl ?_
  refine zK_op rfl rfl ?_
  exact zD72_6_ok hd zfu a0 0 m3 T4
/-! 75 LogicalTimes$Run.begin(II)V -/
def zD75  (a0 : Nat) (a1 : Int32) (a2 : Int32) (μ : xe_Mem) : zO := zq_o a0 6 <| zq_m (xe_setI μ a0 0 a1) fun m2 => zq_m (xe_setI m2 a0 1 a2) fun m4 => zq_m (xe_setI m4 a0 3 0) fun m6 => zq_m (xe_setI m6 a0 4 0) fun m8 => some (.inl none, m8)
theorem zD75_ok {μ0 : xe_Mem} {δ : xe_Dy} {d : Nat} (hd : 0 ≤ d) (a0 : Nat) (a1 : Int32) (a2 : Int32) (μ : xe_Mem) (hT : zT zPc μ0 μ) : zK zPc μ0 δ d 75 0 (xe_init [.ref a0, .int a1, .int a2] (xM_L 75)) [] μ (zD75 a0 a1 a2 μ) := by
  unfold zD75
  show zK zPc μ0 δ d 75 0 [some (.ref a0), some (.int a1), some (.int a2)] [] μ _
  refine zK_op rfl rfl ?_
  refine zK_op rfl rfl ?_
  refine zK_o (fun h1 ph1 => ?_)
  refine zK_pI rfl h1 hT ph1 (fun m2 T3 => ?_)
  refine zK_op rfl rfl ?_
  refine zK_op rfl rfl ?_
  refine zK_pI rfl h1 T3 ph1 (fun m4 T5 => ?_)
  refine zK_op rfl rfl ?_
  refine zK_op rfl rfl ?_
  refine zK_pI rfl h1 T5 ph1 (fun m6 T7 => ?_)
  refine zK_op rfl rfl ?_
  refine zK_op rfl rfl ?_
  refine zK_pI rfl h1 T7 ph1 (fun m8 T9 => ?_)
  exact zK_ret0 rfl T9
/-! 74 LogicalTimes$Mode.beginSpans(I)V -/
def zD74_32 (c2 : Nat → Int32 → Int32 → xe_Mem → zO) (v0 : Nat) (v1 : Int32) (v2 : Int32) (μ : xe_Mem) : zO := c2 v0 v1 (v2 + (1)) μ
def zD74_2_b (c2 : Nat → Int32 → Int32 → xe_Mem → zO) (v0 : Nat) (v1 : Int32) (v2 : Int32) (μ : xe_Mem) : zO := zq_o v0 2 <| if (xe_I μ v0 3) ≤ v2 then some (.inl none, μ) else zq_s (xe_R μ v0 2) fun b2 => zq_a b2 4 fun N4 => zq_x v2 N4 fun j5 => zq_s (xe_R μ b2 j5) fun b9 => zq_o b9 8 <| zq_d (xe_I μ b9 3) <| if (v1 - v1 / (xe_I μ b9 3) * (xe_I μ b9 3)) = 0 then zq_s (xe_R μ v0 2) fun b12 => zq_a b12 4 fun N14 => zq_x v2 N14 fun j15 => zq_s (xe_R μ b12 j15) fun b19 => zq_o b19 8 <| zq_s (xe_R μ b19 14) fun b21 => zq_s (xe_R μ v0 2) fun b22 => zq_a b22 4 fun N24 => zq_x v2 N24 fun j25 => zq_s (xe_R μ b22 j25) fun b29 => zq_o b29 8 <| zq_s (xe_R μ v0 2) fun b31 => zq_a b31 4 fun N33 => zq_x v2 N33 fun j34 => zq_s (xe_R μ b31 j34) fun b38 => zq_o b38 8 <| zq_o b21 6 <| zq_cV (zD75 b21 (xe_I μ b29 4) (v1 + (xe_I μ b38 3)) μ) fun m41 => zD74_32 c2 v0 v1 v2 m41 else zD74_32 c2 v0 v1 v2 μ
def zD74_2   : Nat → Nat → Int32 → Int32 → xe_Mem → zO
  | 0 => fun _ _ _ _  => none
  | n + 1 => zD74_2_b   (zD74_2   n)
def zD74  (a0 : Nat) (a1 : Int32) (μ : xe_Mem) : zO := zD74_2 zfu a0 a1 0 μ
theorem zD74_32_ok {μ0 : xe_Mem} {δ : xe_Dy} {d : Nat} (hd : 1 ≤ d) {c2 : Nat → Int32 → Int32 → xe_Mem → zO} (hc2 : ∀ (v0 : Nat) (v1 : Int32) (v2 : Int32) (μ : xe_Mem), zT zPc μ0 μ → zK zPc μ0 δ d 74 2 [some (.ref v0), some (.int v1), some (.int v2)] [] μ (c2 v0 v1 v2 μ)) : ∀ (v0 : Nat) (v1 : Int32) (v2 : Int32) (μ : xe_Mem), zT zPc μ0 μ → zK zPc μ0 δ d 74 32 [some (.ref v0), some (.int v1), some (.int v2)] [] μ (zD74_32  c2 v0 v1 v2 μ) := by
  intro v0 v1 v2 μ hT
  unfold zD74_32
  refine zK_op rfl rfl ?_
  refine zK_op rfl rfl ?_
  exact hc2 v0 v1 (v2 + (1)) μ hT
theorem zD74_2_bok {μ0 : xe_Mem} {δ : xe_Dy} {d : Nat} (hd : 1 ≤ d)  {c2 : Nat → Int32 → Int32 → xe_Mem → zO} (hc2 : ∀ (v0 : Nat) (v1 : Int32) (v2 : Int32) (μ : xe_Mem), zT zPc μ0 μ → zK zPc μ0 δ d 74 2 [some (.ref v0), some (.int v1), some (.int v2)] [] μ (c2 v0 v1 v2 μ)) : ∀ (v0 : Nat) (v1 : Int32) (v2 : Int32) (μ : xe_Mem), zT zPc μ0 μ → zK zPc μ0 δ d 74 2 [some (.ref v0), some (.int v1), some (.int v2)] [] μ (zD74_2_b  c2 v0 v1 v2 μ) := by
  intro v0 v1 v2 μ hT
  unfold zD74_2_b
  refine zK_op rfl rfl ?_
  refine zK_op rfl rfl ?_
  refine zK_o (fun h1 ph1 => ?_)
  refine zK_gI rfl h1 hT ?_
  refine zK_icge rfl (fun _ => ?_) (fun _ => ?_)
  · exact zK_ret0 rfl hT
  refine zK_op rfl rfl ?_
  refine zK_op rfl rfl ?_
  refine zK_gRs rfl h1 hT (fun b2 => ?_)
  refine zK_op rfl rfl ?_
  refine zK_a (fun N4 h3 ph3 => ?_)
  refine zK_x (fun j5 h6 h7 h8 => ?_)
  refine zK_aR rfl h3 hT h6 h7 h8 (fun b9 => ?_)
  refine zK_o (fun h10 ph10 => ?_)
  refine zK_gI rfl h10 hT ?_
  refine zK_dv (fun h11 => ?_)
  refine zK_i2d rfl h11 ?_
  refine zK_ifne rfl (fun _ => ?_) (fun _ => ?_)
  · refine zK_op rfl rfl ?_
    refine zK_gRs rfl h1 hT (fun b12 => ?_)
    refine zK_op rfl rfl ?_
    refine zK_a (fun N14 h13 ph13 => ?_)
    refine zK_x (fun j15 h16 h17 h18 => ?_)
    refine zK_aR rfl h13 hT h16 h17 h18 (fun b19 => ?_)
    refine zK_o (fun h20 ph20 => ?_)
    refine zK_gRs rfl h20 hT (fun b21 => ?_)
    refine zK_op rfl rfl ?_
    refine zK_gRs rfl h1 hT (fun b22 => ?_)
    refine zK_op rfl rfl ?_
    refine zK_a (fun N24 h23 ph23 => ?_)
    refine zK_x (fun j25 h26 h27 h28 => ?_)
    refine zK_aR rfl h23 hT h26 h27 h28 (fun b29 => ?_)
    refine zK_o (fun h30 ph30 => ?_)
    refine zK_gI rfl h30 hT ?_
    refine zK_op rfl rfl ?_
    refine zK_op rfl rfl ?_
    refine zK_gRs rfl h1 hT (fun b31 => ?_)
    refine zK_op rfl rfl ?_
    refine zK_a (fun N33 h32 ph32 => ?_)
    refine zK_x (fun j34 h35 h36 h37 => ?_)
    refine zK_aR rfl h32 hT h35 h36 h37 (fun b38 => ?_)
    refine zK_o (fun h39 ph39 => ?_)
    refine zK_gI rfl h39 hT ?_
    refine zK_op rfl rfl ?_
    refine zK_o (fun h40 ph40 => ?_)
    refine zK_cV rfl (as := [.ref b21, .int (xe_I μ b29 4), .int (v1 + (xe_I μ b38 3))]) (rest := []) rfl rfl (xe_rcvO (zT_sh hT h40)) (Nat.le_of_ble_eq_true rfl) (Nat.le_of_ble_eq_true rfl) (by decide) (fun _ => rfl) (by omega) (zD75_ok (by omega) b21 (xe_I μ b29 4) (v1 + (xe_I μ b38 3)) μ hT) (fun m41 T42 => ?_)
    exact zD74_32_ok hd hc2 v0 v1 v2 m41 T42
  exact zD74_32_ok hd hc2 v0 v1 v2 μ hT
theorem zD74_2_ok {μ0 : xe_Mem} {δ : xe_Dy} {d : Nat} (hd : 1 ≤ d)  : ∀ n : Nat, ∀ (v0 : Nat) (v1 : Int32) (v2 : Int32) (μ : xe_Mem), zT zPc μ0 μ → zK zPc μ0 δ d 74 2 [some (.ref v0), some (.int v1), some (.int v2)] [] μ (zD74_2  n v0 v1 v2 μ) := by
  intro n
  induction n with
  | zero => exact fun _ _ _ _ _  => fun o μ' h => by cases h
  | succ n ih => exact zD74_2_bok hd   ih
theorem zD74_ok {μ0 : xe_Mem} {δ : xe_Dy} {d : Nat} (hd : 1 ≤ d) (a0 : Nat) (a1 : Int32) (μ : xe_Mem) (hT : zT zPc μ0 μ) : zK zPc μ0 δ d 74 0 (xe_init [.ref a0, .int a1] (xM_L 74)) [] μ (zD74 a0 a1 μ) := by
  unfold zD74
  show zK zPc μ0 δ d 74 0 [some (.ref a0), some (.int a1), none] [] μ _
  refine zK_op rfl rfl ?_
  refine zK_op rfl rfl ?_
  exact zD74_2_ok hd zfu a0 a1 0 μ hT
/-! 76 LogicalTimes$Mode.giveSlot(I)V -/
def zD76_88 (μ : xe_Mem) : zO := some (.inl none, μ)
def zD76_44 (c4 : Nat → Int32 → Option Nat → Int32 → xe_Mem → zO) (v0 : Nat) (v1 : Int32) (v2 : Option Nat) (v3 : Int32) (μ : xe_Mem) : zO := c4 v0 v1 v2 (v3 + (1)) μ
def zD76_39 (c4 : Nat → Int32 → Option Nat → Int32 → xe_Mem → zO) (v0 : Nat) (v1 : Int32) (v3 : Int32) (μ : xe_Mem) : zO := zq_o v0 2 <| zq_s (xe_R μ v0 2) fun b69 => zq_a b69 4 fun N71 => zq_x v3 N71 fun j72 => zq_s (xe_R μ b69 j72) fun b76 => zD76_44 c4 v0 v1 (some b76) v3 μ
def zD76_28 (c4 : Nat → Int32 → Option Nat → Int32 → xe_Mem → zO) (v0 : Nat) (v1 : Int32) (v2 : Option Nat) (v3 : Int32) (v4 : Nat) (s0 : Int32) (μ : xe_Mem) : zO := if s0 = 0 then zD76_44 c4 v0 v1 v2 v3 μ else zq_n v2 (zD76_39 c4 v0 v1 v3 μ) fun b67 => zq_o v4 6 <| zq_o b67 8 <| zq_s (xe_R μ b67 14) fun b79 => zq_o b79 6 <| if (xe_I μ b79 1) ≤ (xe_I μ v4 1) then zD76_44 c4 v0 v1 (some b67) v3 μ else zD76_39 c4 v0 v1 v3 μ
def zD76_27 (c4 : Nat → Int32 → Option Nat → Int32 → xe_Mem → zO) (v0 : Nat) (v1 : Int32) (v2 : Option Nat) (v3 : Int32) (v4 : Nat) (μ : xe_Mem) : zO := zD76_28 c4 v0 v1 v2 v3 v4 0 μ
def zD76_4_b (c4 : Nat → Int32 → Option Nat → Int32 → xe_Mem → zO) (v0 : Nat) (v1 : Int32) (v2 : Option Nat) (v3 : Int32) (μ : xe_Mem) : zO := zq_o v0 2 <| if (xe_I μ v0 3) ≤ v3 then zq_n v2 (zD76_88 μ) fun b2 => zq_o b2 8 <| zq_s (xe_R μ b2 14) fun b4 => zq_o b4 6 <| zq_vI (xe_I μ b4 3) fun x6 => zq_s (xe_R μ v0 8) fun b7 => zq_a b7 4 fun N9 => zq_x v1 N9 fun j10 => zq_w b7 j10 <| zq_m (xe_setR μ b7 j10 (some b2)) fun m14 => zq_s (xe_R m14 v0 9) fun b17 => zq_s (xe_R m14 b2 10) fun b18 => zq_a b18 0 fun N20 => zq_x x6 N20 fun j21 => zq_a b17 0 fun N26 => zq_x v1 N26 fun j27 => zq_m (xe_setI m14 b17 j27 (xe_I m14 b18 j21)) fun m31 => zq_s (xe_R m31 v0 11) fun b33 => zq_d (xe_I m31 b2 3) <| zq_a b33 0 fun N36 => zq_x (((xe_I m31 b2 12) + ((v1 / (xe_I m31 b2 3)) * (xe_I m31 b2 11))) + x6) N36 fun j37 => zq_m (xe_setI m31 b33 j37 v1) fun m41 => zq_s (xe_R m41 b2 14) fun b43 => zq_o b43 6 <| zq_m (xe_setI m41 b43 3 ((xe_I m41 b43 3) + 1)) fun m45 => zD76_88 m45 else zq_s (xe_R μ v0 2) fun b47 => zq_a b47 4 fun N49 => zq_x v3 N49 fun j50 => zq_s (xe_R μ b47 j50) fun b54 => zq_o b54 8 <| zq_s (xe_R μ b54 14) fun b56 => zq_o b56 6 <| if (xe_I μ b56 0) = 0 then zq_s (xe_R μ v0 2) fun b58 => zq_a b58 4 fun N60 => zq_x v3 N60 fun j61 => zq_s (xe_R μ b58 j61) fun b65 => zq_o b65 8 <| if (xe_I μ b65 11) ≤ (xe_I μ b56 3) then zD76_27 c4 v0 v1 v2 v3 b56 μ else zD76_28 c4 v0 v1 v2 v3 b56 1 μ else zD76_27 c4 v0 v1 v2 v3 b56 μ
def zD76_4   : Nat → Nat → Int32 → Option Nat → Int32 → xe_Mem → zO
  | 0 => fun _ _ _ _ _  => none
  | n + 1 => zD76_4_b   (zD76_4   n)
def zD76  (a0 : Nat) (a1 : Int32) (μ : xe_Mem) : zO := zD76_4 zfu a0 a1 none 0 μ
theorem zD76_88_ok {μ0 : xe_Mem} {δ : xe_Dy} {d : Nat} (hd : 0 ≤ d)  : ∀ (l0 : Option Value) (l1 : Option Value) (l2 : Option Value) (l3 : Option Value) (l4 : Option Value) (l5 : Option Value) (μ : xe_Mem), zT zPc μ0 μ → zK zPc μ0 δ d 76 88 [l0, l1, l2, l3, l4, l5] [] μ (zD76_88  μ) := by
  intro l0 l1 l2 l3 l4 l5 μ hT
  unfold zD76_88
  exact zK_ret0 rfl hT
theorem zD76_44_ok {μ0 : xe_Mem} {δ : xe_Dy} {d : Nat} (hd : 0 ≤ d) {c4 : Nat → Int32 → Option Nat → Int32 → xe_Mem → zO} (hc4 : ∀ (v0 : Nat) (v1 : Int32) (v2 : Option Nat) (v3 : Int32) (l4 : Option Value) (l5 : Option Value) (μ : xe_Mem), zT zPc μ0 μ → zK zPc μ0 δ d 76 4 [some (.ref v0), some (.int v1), some (va_rf v2), some (.int v3), l4, l5] [] μ (c4 v0 v1 v2 v3 μ)) : ∀ (v0 : Nat) (v1 : Int32) (v2 : Option Nat) (v3 : Int32) (l4 : Option Value) (l5 : Option Value) (μ : xe_Mem), zT zPc μ0 μ → zK zPc μ0 δ d 76 44 [some (.ref v0), some (.int v1), some (va_rf v2), some (.int v3), l4, l5] [] μ (zD76_44  c4 v0 v1 v2 v3 μ) := by
  intro v0 v1 v2 v3 l4 l5 μ hT
  unfold zD76_44
  refine zK_op rfl (ze_incO (i := 2) rfl rfl) ?_
  refine zK_op rfl rfl ?_
  exact hc4 v0 v1 v2 (v3 + (1)) _ _ μ hT
theorem zD76_39_ok {μ0 : xe_Mem} {δ : xe_Dy} {d : Nat} (hd : 0 ≤ d) {c4 : Nat → Int32 → Option Nat → Int32 → xe_Mem → zO} (hc4 : ∀ (v0 : Nat) (v1 : Int32) (v2 : Option Nat) (v3 : Int32) (l4 : Option Value) (l5 : Option Value) (μ : xe_Mem), zT zPc μ0 μ → zK zPc μ0 δ d 76 4 [some (.ref v0), some (.int v1), some (va_rf v2), some (.int v3), l4, l5] [] μ (c4 v0 v1 v2 v3 μ)) : ∀ (v0 : Nat) (v1 : Int32) (v3 : Int32) (l2 : Option Value) (l4 : Option Value) (l5 : Option Value) (μ : xe_Mem), zT zPc μ0 μ → zK zPc μ0 δ d 76 39 [some (.ref v0), some (.int v1), l2, some (.int v3), l4, l5] [] μ (zD76_39  c4 v0 v1 v3 μ) := by
  intro v0 v1 v3 l2 l4 l5 μ hT
  unfold zD76_39
  refine zK_op rfl rfl ?_
  refine zK_o (fun h68 ph68 => ?_)
  refine zK_gRs rfl h68 hT (fun b69 => ?_)
  refine zK_op rfl rfl ?_
  refine zK_a (fun N71 h70 ph70 => ?_)
  refine zK_x (fun j72 h73 h74 h75 => ?_)
  refine zK_aR rfl h70 hT h73 h74 h75 (fun b76 => ?_)
  refine zK_op rfl rfl ?_
  exact zD76_44_ok hd hc4 v0 v1 (some b76) v3 _ _ μ hT
theorem zD76_28_ok {μ0 : xe_Mem} {δ : xe_Dy} {d : Nat} (hd : 0 ≤ d) {c4 : Nat → Int32 → Option Nat → Int32 → xe_Mem → zO} (hc4 : ∀ (v0 : Nat) (v1 : Int32) (v2 : Option Nat) (v3 : Int32) (l4 : Option Value) (l5 : Option Value) (μ : xe_Mem), zT zPc μ0 μ → zK zPc μ0 δ d 76 4 [some (.ref v0), some (.int v1), some (va_rf v2), some (.int v3), l4, l5] [] μ (c4 v0 v1 v2 v3 μ)) : ∀ (v0 : Nat) (v1 : Int32) (v2 : Option Nat) (v3 : Int32) (v4 : Nat) (s0 : Int32) (l5 : Option Value) (μ : xe_Mem), zT zPc μ0 μ → zK zPc μ0 δ d 76 28 [some (.ref v0), some (.int v1), some (va_rf v2), some (.int v3), some (.ref v4), l5] [.int s0] μ (zD76_28  c4 v0 v1 v2 v3 v4 s0 μ) := by
  intro v0 v1 v2 v3 v4 s0 l5 μ hT
  unfold zD76_28
  refine zK_op rfl rfl ?_
  refine zK_op rfl rfl ?_
  refine zK_ifeq rfl (fun _ => ?_) (fun _ => ?_)
  · exact zD76_44_ok hd hc4 v0 v1 v2 v3 _ _ μ hT
  refine zK_op rfl (ze_ldO rfl) ?_
  cases v2 with
  | none =>
    refine zK_nullN rfl ?_
    exact zD76_39_ok hd hc4 v0 v1 v3 _ _ _ μ hT
  | some b67 =>
    refine zK_nullS rfl ?_
    refine zK_op rfl rfl ?_
    refine zK_o (fun h77 ph77 => ?_)
    refine zK_gI rfl h77 hT ?_
    refine zK_op rfl rfl ?_
    refine zK_o (fun h78 ph78 => ?_)
    refine zK_gRs rfl h78 hT (fun b79 => ?_)
    refine zK_o (fun h80 ph80 => ?_)
    refine zK_gI rfl h80 hT ?_
    refine zK_icge rfl (fun _ => ?_) (fun _ => ?_)
    · exact zD76_44_ok hd hc4 v0 v1 (some b67) v3 _ _ μ hT
    exact zD76_39_ok hd hc4 v0 v1 v3 _ _ _ μ hT
theorem zD76_27_ok {μ0 : xe_Mem} {δ : xe_Dy} {d : Nat} (hd : 0 ≤ d) {c4 : Nat → Int32 → Option Nat → Int32 → xe_Mem → zO} (hc4 : ∀ (v0 : Nat) (v1 : Int32) (v2 : Option Nat) (v3 : Int32) (l4 : Option Value) (l5 : Option Value) (μ : xe_Mem), zT zPc μ0 μ → zK zPc μ0 δ d 76 4 [some (.ref v0), some (.int v1), some (va_rf v2), some (.int v3), l4, l5] [] μ (c4 v0 v1 v2 v3 μ)) : ∀ (v0 : Nat) (v1 : Int32) (v2 : Option Nat) (v3 : Int32) (v4 : Nat) (l5 : Option Value) (μ : xe_Mem), zT zPc μ0 μ → zK zPc μ0 δ d 76 27 [some (.ref v0), some (.int v1), some (va_rf v2), some (.int v3), some (.ref v4), l5] [] μ (zD76_27  c4 v0 v1 v2 v3 v4 μ) := by
  intro v0 v1 v2 v3 v4 l5 μ hT
  unfold zD76_27
  refine zK_op rfl rfl ?_
  exact zD76_28_ok hd hc4 v0 v1 v2 v3 v4 0 _ μ hT
theorem zD76_4_bok {μ0 : xe_Mem} {δ : xe_Dy} {d : Nat} (hd : 0 ≤ d)  {c4 : Nat → Int32 → Option Nat → Int32 → xe_Mem → zO} (hc4 : ∀ (v0 : Nat) (v1 : Int32) (v2 : Option Nat) (v3 : Int32) (l4 : Option Value) (l5 : Option Value) (μ : xe_Mem), zT zPc μ0 μ → zK zPc μ0 δ d 76 4 [some (.ref v0), some (.int v1), some (va_rf v2), some (.int v3), l4, l5] [] μ (c4 v0 v1 v2 v3 μ)) : ∀ (v0 : Nat) (v1 : Int32) (v2 : Option Nat) (v3 : Int32) (l4 : Option Value) (l5 : Option Value) (μ : xe_Mem), zT zPc μ0 μ → zK zPc μ0 δ d 76 4 [some (.ref v0), some (.int v1), some (va_rf v2), some (.int v3), l4, l5] [] μ (zD76_4_b  c4 v0 v1 v2 v3 μ) := by
  intro v0 v1 v2 v3 l4 l5 μ hT
  unfold zD76_4_b
  refine zK_op rfl rfl ?_
  refine zK_op rfl rfl ?_
  refine zK_o (fun h1 ph1 => ?_)
  refine zK_gI rfl h1 hT ?_
  refine zK_icge rfl (fun _ => ?_) (fun _ => ?_)
  · refine zK_op rfl (ze_ldO rfl) ?_
    cases v2 with
    | none =>
      refine zK_nullN rfl ?_
      exact zD76_88_ok hd _ _ _ _ _ _ μ hT
    | some b2 =>
      refine zK_nullS rfl ?_
      refine zK_op rfl rfl ?_
      refine zK_o (fun h3 ph3 => ?_)
      refine zK_gRs rfl h3 hT (fun b4 => ?_)
      refine zK_o (fun h5 ph5 => ?_)
      refine zK_gI rfl h5 hT ?_
      refine zK_vI (fun x6 => ?_)
      refine zK_op rfl rfl ?_
      refine zK_op rfl rfl ?_
      refine zK_gRs rfl h1 hT (fun b7 => ?_)
      refine zK_op rfl rfl ?_
      refine zK_op rfl rfl ?_
      refine zK_a (fun N9 h8 ph8 => ?_)
      refine zK_x (fun j10 h11 h12 h13 => ?_)
      refine zK_w (fun h16 => ?_)
      refine zK_sR rfl h8 hT h11 h12 h13 h3 h16 ph8 (fun m14 T15 => ?_)
      refine zK_op rfl rfl ?_
      refine zK_gRs rfl h1 T15 (fun b17 => ?_)
      refine zK_op rfl rfl ?_
      refine zK_op rfl rfl ?_
      refine zK_gRs rfl h3 T15 (fun b18 => ?_)
      refine zK_op rfl rfl ?_
      refine zK_a (fun N20 h19 ph19 => ?_)
      refine zK_x (fun j21 h22 h23 h24 => ?_)
      refine zK_aI rfl h19 T15 h22 h23 h24 ?_
      refine zK_a (fun N26 h25 ph25 => ?_)
      refine zK_x (fun j27 h28 h29 h30 => ?_)
      refine zK_sI (a := b17) (g := (fun x => x)) rfl h25 T15 h28 h29 h30 ph25 (fun m31 T32 => ?_)
      refine zK_op rfl rfl ?_
      refine zK_gRs rfl h1 T32 (fun b33 => ?_)
      refine zK_op rfl rfl ?_
      refine zK_gI rfl h3 T32 ?_
      refine zK_op rfl rfl ?_
      refine zK_op rfl rfl ?_
      refine zK_gI rfl h3 T32 ?_
      refine zK_dv (fun h34 => ?_)
      refine zK_i2d rfl h34 ?_
      refine zK_op rfl rfl ?_
      refine zK_gI rfl h3 T32 ?_
      refine zK_op rfl rfl ?_
      refine zK_op rfl rfl ?_
      refine zK_op rfl rfl ?_
      refine zK_op rfl rfl ?_
      refine zK_op rfl rfl ?_
      refine zK_a (fun N36 h35 ph35 => ?_)
      refine zK_x (fun j37 h38 h39 h40 => ?_)
      refine zK_sI (a := b33) (g := (fun x => x)) rfl h35 T32 h38 h39 h40 ph35 (fun m41 T42 => ?_)
      refine zK_op rfl rfl ?_
      refine zK_gRs rfl h3 T42 (fun b43 => ?_)
      refine zK_op rfl rfl ?_
      refine zK_o (fun h44 ph44 => ?_)
      refine zK_gI rfl h44 T42 ?_
      refine zK_op rfl rfl ?_
      refine zK_op rfl rfl ?_
      refine zK_pI rfl h44 T42 ph44 (fun m45 T46 => ?_)
      exact zD76_88_ok hd _ _ _ _ _ _ m45 T46
  refine zK_op rfl rfl ?_
  refine zK_gRs rfl h1 hT (fun b47 => ?_)
  refine zK_op rfl rfl ?_
  refine zK_a (fun N49 h48 ph48 => ?_)
  refine zK_x (fun j50 h51 h52 h53 => ?_)
  refine zK_aR rfl h48 hT h51 h52 h53 (fun b54 => ?_)
  refine zK_o (fun h55 ph55 => ?_)
  refine zK_gRs rfl h55 hT (fun b56 => ?_)
  refine zK_op rfl rfl ?_
  refine zK_op rfl rfl ?_
  refine zK_o (fun h57 ph57 => ?_)
  refine zK_gI rfl h57 hT ?_
  refine zK_ifne rfl (fun _ => ?_) (fun _ => ?_)
  · refine zK_op rfl rfl ?_
    refine zK_gI rfl h57 hT ?_
    refine zK_op rfl rfl ?_
    refine zK_gRs rfl h1 hT (fun b58 => ?_)
    refine zK_op rfl rfl ?_
    refine zK_a (fun N60 h59 ph59 => ?_)
    refine zK_x (fun j61 h62 h63 h64 => ?_)
    refine zK_aR rfl h59 hT h62 h63 h64 (fun b65 => ?_)
    refine zK_o (fun h66 ph66 => ?_)
    refine zK_gI rfl h66 hT ?_
    refine zK_icge rfl (fun _ => ?_) (fun _ => ?_)
    · exact zD76_27_ok hd hc4 v0 v1 v2 v3 b56 _ μ hT
    refine zK_op rfl rfl ?_
    refine zK_op rfl rfl ?_
    exact zD76_28_ok hd hc4 v0 v1 v2 v3 b56 1 _ μ hT
  exact zD76_27_ok hd hc4 v0 v1 v2 v3 b56 _ μ hT
theorem zD76_4_ok {μ0 : xe_Mem} {δ : xe_Dy} {d : Nat} (hd : 0 ≤ d)  : ∀ n : Nat, ∀ (v0 : Nat) (v1 : Int32) (v2 : Option Nat) (v3 : Int32) (l4 : Option Value) (l5 : Option Value) (μ : xe_Mem), zT zPc μ0 μ → zK zPc μ0 δ d 76 4 [some (.ref v0), some (.int v1), some (va_rf v2), some (.int v3), l4, l5] [] μ (zD76_4  n v0 v1 v2 v3 μ) := by
  intro n
  induction n with
  | zero => exact fun _ _ _ _ _ _ _ _  => fun o μ' h => by cases h
  | succ n ih => exact zD76_4_bok hd   ih
theorem zD76_ok {μ0 : xe_Mem} {δ : xe_Dy} {d : Nat} (hd : 0 ≤ d) (a0 : Nat) (a1 : Int32) (μ : xe_Mem) (hT : zT zPc μ0 μ) : zK zPc μ0 δ d 76 0 (xe_init [.ref a0, .int a1] (xM_L 76)) [] μ (zD76 a0 a1 μ) := by
  unfold zD76
  show zK zPc μ0 δ d 76 0 [some (.ref a0), some (.int a1), none, none, none, none] [] μ _
  refine zK_op rfl rfl ?_
  refine zK_op rfl rfl ?_
  refine zK_op rfl rfl ?_
  refine zK_op rfl rfl ?_
  exact zD76_4_ok hd zfu a0 a1 none 0 _ _ μ hT
/-! 78 LogicalTimes$Mode.firstToRun(I)LLogicalTimes$Task; -/
def zD78_32 (c4 : Nat → Int32 → Option Nat → Int32 → xe_Mem → zO) (v0 : Nat) (v1 : Int32) (v2 : Option Nat) (v3 : Int32) (μ : xe_Mem) : zO := c4 v0 v1 v2 (v3 + (1)) μ
def zD78_30 (c4 : Nat → Int32 → Option Nat → Int32 → xe_Mem → zO) (v0 : Nat) (v1 : Int32) (v3 : Int32) (v4 : Nat) (μ : xe_Mem) : zO := zD78_32 c4 v0 v1 (some v4) v3 μ
def zD78_4_b (c4 : Nat → Int32 → Option Nat → Int32 → xe_Mem → zO) (v0 : Nat) (v1 : Int32) (v2 : Option Nat) (v3 : Int32) (μ : xe_Mem) : zO := zq_o v0 2 <| if (xe_I μ v0 3) ≤ v3 then some (.inl (some (va_rf v2)), μ) else zq_s (xe_R μ v0 2) fun b2 => zq_a b2 4 fun N4 => zq_x v3 N4 fun j5 => zq_s (xe_R μ b2 j5) fun b9 => zq_o b9 8 <| if (xe_I μ b9 2) = v1 then zq_s (xe_R μ b9 14) fun b11 => zq_o b11 6 <| if (xe_I μ b11 0) ≤ 0 then zD78_32 c4 v0 v1 v2 v3 μ else zq_n v2 (zD78_30 c4 v0 v1 v3 b9 μ) fun b13 => zq_s (xe_R μ b9 14) fun b14 => zq_o b14 6 <| zq_o b13 8 <| zq_s (xe_R μ b13 14) fun b17 => zq_o b17 6 <| if (xe_I μ b17 1) ≤ (xe_I μ b14 1) then zD78_32 c4 v0 v1 (some b13) v3 μ else zD78_30 c4 v0 v1 v3 b9 μ else zD78_32 c4 v0 v1 v2 v3 μ
def zD78_4   : Nat → Nat → Int32 → Option Nat → Int32 → xe_Mem → zO
  | 0 => fun _ _ _ _ _  => none
  | n + 1 => zD78_4_b   (zD78_4   n)
def zD78  (a0 : Nat) (a1 : Int32) (μ : xe_Mem) : zO := zD78_4 zfu a0 a1 none 0 μ
theorem zD78_32_ok {μ0 : xe_Mem} {δ : xe_Dy} {d : Nat} (hd : 0 ≤ d) {c4 : Nat → Int32 → Option Nat → Int32 → xe_Mem → zO} (hc4 : ∀ (v0 : Nat) (v1 : Int32) (v2 : Option Nat) (v3 : Int32) (l4 : Option Value) (μ : xe_Mem), zT zPc μ0 μ → zK zPc μ0 δ d 78 4 [some (.ref v0), some (.int v1), some (va_rf v2), some (.int v3), l4] [] μ (c4 v0 v1 v2 v3 μ)) : ∀ (v0 : Nat) (v1 : Int32) (v2 : Option Nat) (v3 : Int32) (l4 : Option Value) (μ : xe_Mem), zT zPc μ0 μ → zK zPc μ0 δ d 78 32 [some (.ref v0), some (.int v1), some (va_rf v2), some (.int v3), l4] [] μ (zD78_32  c4 v0 v1 v2 v3 μ) := by
  intro v0 v1 v2 v3 l4 μ hT
  unfold zD78_32
  refine zK_op rfl (ze_incO (i := 2) rfl rfl) ?_
  refine zK_op rfl rfl ?_
  exact hc4 v0 v1 v2 (v3 + (1)) _ μ hT
theorem zD78_30_ok {μ0 : xe_Mem} {δ : xe_Dy} {d : Nat} (hd : 0 ≤ d) {c4 : Nat → Int32 → Option Nat → Int32 → xe_Mem → zO} (hc4 : ∀ (v0 : Nat) (v1 : Int32) (v2 : Option Nat) (v3 : Int32) (l4 : Option Value) (μ : xe_Mem), zT zPc μ0 μ → zK zPc μ0 δ d 78 4 [some (.ref v0), some (.int v1), some (va_rf v2), some (.int v3), l4] [] μ (c4 v0 v1 v2 v3 μ)) : ∀ (v0 : Nat) (v1 : Int32) (v3 : Int32) (v4 : Nat) (l2 : Option Value) (μ : xe_Mem), zT zPc μ0 μ → zK zPc μ0 δ d 78 30 [some (.ref v0), some (.int v1), l2, some (.int v3), some (.ref v4)] [] μ (zD78_30  c4 v0 v1 v3 v4 μ) := by
  intro v0 v1 v3 v4 l2 μ hT
  unfold zD78_30
  refine zK_op rfl rfl ?_
  refine zK_op rfl rfl ?_
  exact zD78_32_ok hd hc4 v0 v1 (some v4) v3 _ μ hT
theorem zD78_4_bok {μ0 : xe_Mem} {δ : xe_Dy} {d : Nat} (hd : 0 ≤ d)  {c4 : Nat → Int32 → Option Nat → Int32 → xe_Mem → zO} (hc4 : ∀ (v0 : Nat) (v1 : Int32) (v2 : Option Nat) (v3 : Int32) (l4 : Option Value) (μ : xe_Mem), zT zPc μ0 μ → zK zPc μ0 δ d 78 4 [some (.ref v0), some (.int v1), some (va_rf v2), some (.int v3), l4] [] μ (c4 v0 v1 v2 v3 μ)) : ∀ (v0 : Nat) (v1 : Int32) (v2 : Option Nat) (v3 : Int32) (l4 : Option Value) (μ : xe_Mem), zT zPc μ0 μ → zK zPc μ0 δ d 78 4 [some (.ref v0), some (.int v1), some (va_rf v2), some (.int v3), l4] [] μ (zD78_4_b  c4 v0 v1 v2 v3 μ) := by
  intro v0 v1 v2 v3 l4 μ hT
  unfold zD78_4_b
  refine zK_op rfl rfl ?_
  refine zK_op rfl rfl ?_
  refine zK_o (fun h1 ph1 => ?_)
  refine zK_gI rfl h1 hT ?_
  refine zK_icge rfl (fun _ => ?_) (fun _ => ?_)
  · refine zK_op rfl (ze_ldO rfl) ?_
    exact zK_ret4o rfl hT
  refine zK_op rfl rfl ?_
  refine zK_gRs rfl h1 hT (fun b2 => ?_)
  refine zK_op rfl rfl ?_
  refine zK_a (fun N4 h3 ph3 => ?_)
  refine zK_x (fun j5 h6 h7 h8 => ?_)
  refine zK_aR rfl h3 hT h6 h7 h8 (fun b9 => ?_)
  refine zK_op rfl rfl ?_
  refine zK_op rfl rfl ?_
  refine zK_o (fun h10 ph10 => ?_)
  refine zK_gI rfl h10 hT ?_
  refine zK_op rfl rfl ?_
  refine zK_icne rfl (fun _ => ?_) (fun _ => ?_)
  · refine zK_op rfl rfl ?_
    refine zK_gRs rfl h10 hT (fun b11 => ?_)
    refine zK_o (fun h12 ph12 => ?_)
    refine zK_gI rfl h12 hT ?_
    refine zK_ifle rfl (fun _ => ?_) (fun _ => ?_)
    · exact zD78_32_ok hd hc4 v0 v1 v2 v3 _ μ hT
    refine zK_op rfl (ze_ldO rfl) ?_
    cases v2 with
    | none =>
      refine zK_nullN rfl ?_
      exact zD78_30_ok hd hc4 v0 v1 v3 b9 _ μ hT
    | some b13 =>
      refine zK_nullS rfl ?_
      refine zK_op rfl rfl ?_
      refine zK_gRs rfl h10 hT (fun b14 => ?_)
      refine zK_o (fun h15 ph15 => ?_)
      refine zK_gI rfl h15 hT ?_
      refine zK_op rfl rfl ?_
      refine zK_o (fun h16 ph16 => ?_)
      refine zK_gRs rfl h16 hT (fun b17 => ?_)
      refine zK_o (fun h18 ph18 => ?_)
      refine zK_gI rfl h18 hT ?_
      refine zK_icge rfl (fun _ => ?_) (fun _ => ?_)
      · exact zD78_32_ok hd hc4 v0 v1 (some b13) v3 _ μ hT
      exact zD78_30_ok hd hc4 v0 v1 v3 b9 _ μ hT
  exact zD78_32_ok hd hc4 v0 v1 v2 v3 _ μ hT
theorem zD78_4_ok {μ0 : xe_Mem} {δ : xe_Dy} {d : Nat} (hd : 0 ≤ d)  : ∀ n : Nat, ∀ (v0 : Nat) (v1 : Int32) (v2 : Option Nat) (v3 : Int32) (l4 : Option Value) (μ : xe_Mem), zT zPc μ0 μ → zK zPc μ0 δ d 78 4 [some (.ref v0), some (.int v1), some (va_rf v2), some (.int v3), l4] [] μ (zD78_4  n v0 v1 v2 v3 μ) := by
  intro n
  induction n with
  | zero => exact fun _ _ _ _ _ _ _  => fun o μ' h => by cases h
  | succ n ih => exact zD78_4_bok hd   ih
theorem zD78_ok {μ0 : xe_Mem} {δ : xe_Dy} {d : Nat} (hd : 0 ≤ d) (a0 : Nat) (a1 : Int32) (μ : xe_Mem) (hT : zT zPc μ0 μ) : zK zPc μ0 δ d 78 0 (xe_init [.ref a0, .int a1] (xM_L 78)) [] μ (zD78 a0 a1 μ) := by
  unfold zD78
  show zK zPc μ0 δ d 78 0 [some (.ref a0), some (.int a1), none, none, none] [] μ _
  refine zK_op rfl rfl ?_
  refine zK_op rfl rfl ?_
  refine zK_op rfl rfl ?_
  refine zK_op rfl rfl ?_
  exact zD78_4_ok hd zfu a0 a1 none 0 _ μ hT
/-! 77 LogicalTimes$Mode.runNode(II)V -/
def zD77_30 (μ : xe_Mem) : zO := some (.inl none, μ)
def zD77  (a0 : Nat) (a1 : Int32) (a2 : Int32) (μ : xe_Mem) : zO := zq_o a0 2 <| zq_cO (zD78 a0 a1 μ) fun x4 m2 => zq_n x4 (some (.inl none, m2)) fun b5 => zq_o b5 8 <| zq_s (xe_R m2 b5 14) fun b7 => zq_o b7 6 <| zq_m (xe_setI m2 b7 0 ((xe_I m2 b7 0) - 1)) fun m9 => zq_s (xe_R m9 b5 14) fun b11 => zq_o b11 6 <| if (xe_I m9 b11 0) = 0 then zq_s (xe_R m9 b5 14) fun b13 => zq_o b13 6 <| zq_m (xe_setI m9 b5 13 (if (xe_I m9 b13 1) - (a2 + 1) < xe_I m9 b5 13 then (xe_I m9 b13 1) - (a2 + 1) else xe_I m9 b5 13)) fun m15 => zD77_30 m15 else zD77_30 m9
theorem zD77_30_ok {μ0 : xe_Mem} {δ : xe_Dy} {d : Nat} (hd : 1 ≤ d)  : ∀ (l0 : Option Value) (l1 : Option Value) (l2 : Option Value) (l3 : Option Value) (μ : xe_Mem), zT zPc μ0 μ → zK zPc μ0 δ d 77 30 [l0, l1, l2, l3] [] μ (zD77_30  μ) := by
  intro l0 l1 l2 l3 μ hT
  unfold zD77_30
  exact zK_ret0 rfl hT
theorem zD77_ok {μ0 : xe_Mem} {δ : xe_Dy} {d : Nat} (hd : 1 ≤ d) (a0 : Nat) (a1 : Int32) (a2 : Int32) (μ : xe_Mem) (hT : zT zPc μ0 μ) : zK zPc μ0 δ d 77 0 (xe_init [.ref a0, .int a1, .int a2] (xM_L 77)) [] μ (zD77 a0 a1 a2 μ) := by
  unfold zD77
  show zK zPc μ0 δ d 77 0 [some (.ref a0), some (.int a1), some (.int a2), none] [] μ _
  refine zK_op rfl rfl ?_
  refine zK_op rfl rfl ?_
  refine zK_o (fun h1 ph1 => ?_)
  refine zK_cO rfl (as := [.ref a0, .int a1]) (rest := []) rfl rfl (xe_rcvO (zT_sh hT h1)) (Nat.le_of_ble_eq_true rfl) (Nat.le_of_ble_eq_true rfl) (by decide) (fun _ => rfl) (by omega) (zD78_ok (by omega) a0 a1 μ hT) (fun x4 m2 T3 => ?_)
  refine zK_op rfl ze_stO ?_
  refine zK_op rfl (ze_ldO rfl) ?_
  cases x4 with
  | none =>
    refine zK_nonnullN rfl ?_
    exact zK_ret0 rfl T3
  | some b5 =>
    refine zK_nonnullS rfl ?_
    refine zK_op rfl rfl ?_
    refine zK_o (fun h6 ph6 => ?_)
    refine zK_gRs rfl h6 T3 (fun b7 => ?_)
    refine zK_op rfl rfl ?_
    refine zK_o (fun h8 ph8 => ?_)
    refine zK_gI rfl h8 T3 ?_
    refine zK_op rfl rfl ?_
    refine zK_op rfl rfl ?_
    refine zK_pI rfl h8 T3 ph8 (fun m9 T10 => ?_)
    refine zK_op rfl rfl ?_
    refine zK_gRs rfl h6 T10 (fun b11 => ?_)
    refine zK_o (fun h12 ph12 => ?_)
    refine zK_gI rfl h12 T10 ?_
    refine zK_ifne rfl (fun _ => ?_) (fun _ => ?_)
    · refine zK_op rfl rfl ?_
      refine zK_op rfl rfl ?_
      refine zK_gI rfl h6 T10 ?_
      refine zK_op rfl rfl ?_
      refine zK_gRs rfl h6 T10 (fun b13 => ?_)
      refine zK_o (fun h14 ph14 => ?_)
      refine zK_gI rfl h14 T10 ?_
      refine zK_op rfl rfl ?_
      refine zK_op rfl rfl ?_
      refine zK_op rfl rfl ?_
      refine zK_op rfl rfl ?_
      refine zK_imin rfl (Nat.le_of_ble_eq_true rfl) ?_
      refine zK_pI rfl h6 T10 ph6 (fun m15 T16 => ?_)
      exact zD77_30_ok hd _ _ _ _ m15 T16
    exact zD77_30_ok hd _ _ _ _ m9 T10
/-! 79 LogicalTimes$Mode.endSpans(I)V -/
def zD79_35 (c2 : Nat → Int32 → Int32 → xe_Mem → zO) (v0 : Nat) (v1 : Int32) (v2 : Int32) (μ : xe_Mem) : zO := c2 v0 v1 (v2 + (1)) μ
def zD79_34 (c2 : Nat → Int32 → Int32 → xe_Mem → zO) (v0 : Nat) (v1 : Int32) (v2 : Int32) (s0 : Nat) (s1 : Int32) (μ : xe_Mem) : zO := zq_o s0 2 <| zq_m (xe_setI μ s0 12 s1) fun m18 => zD79_35 c2 v0 v1 v2 m18
def zD79_2_b (c2 : Nat → Int32 → Int32 → xe_Mem → zO) (v0 : Nat) (v1 : Int32) (v2 : Int32) (μ : xe_Mem) : zO := zq_o v0 2 <| if (xe_I μ v0 3) ≤ v2 then some (.inl none, μ) else zq_s (xe_R μ v0 2) fun b2 => zq_a b2 4 fun N4 => zq_x v2 N4 fun j5 => zq_s (xe_R μ b2 j5) fun b9 => zq_o b9 8 <| zq_s (xe_R μ b9 14) fun b11 => zq_o b11 6 <| if (xe_I μ b11 1) = v1 then zq_s (xe_R μ b9 14) fun b13 => zq_o b13 6 <| if (xe_I μ b13 0) ≤ 0 then zD79_35 c2 v0 v1 v2 μ else zq_m (xe_setI μ b9 13 ((-1))) fun m15 => if (xe_I m15 v0 12) = 0 then zD79_34 c2 v0 v1 v2 v0 (1 + (xe_I m15 b9 0)) m15 else zD79_34 c2 v0 v1 v2 v0 (xe_I m15 v0 12) m15 else zD79_35 c2 v0 v1 v2 μ
def zD79_2   : Nat → Nat → Int32 → Int32 → xe_Mem → zO
  | 0 => fun _ _ _ _  => none
  | n + 1 => zD79_2_b   (zD79_2   n)
def zD79  (a0 : Nat) (a1 : Int32) (μ : xe_Mem) : zO := zD79_2 zfu a0 a1 0 μ
theorem zD79_35_ok {μ0 : xe_Mem} {δ : xe_Dy} {d : Nat} (hd : 0 ≤ d) {c2 : Nat → Int32 → Int32 → xe_Mem → zO} (hc2 : ∀ (v0 : Nat) (v1 : Int32) (v2 : Int32) (l3 : Option Value) (μ : xe_Mem), zT zPc μ0 μ → zK zPc μ0 δ d 79 2 [some (.ref v0), some (.int v1), some (.int v2), l3] [] μ (c2 v0 v1 v2 μ)) : ∀ (v0 : Nat) (v1 : Int32) (v2 : Int32) (l3 : Option Value) (μ : xe_Mem), zT zPc μ0 μ → zK zPc μ0 δ d 79 35 [some (.ref v0), some (.int v1), some (.int v2), l3] [] μ (zD79_35  c2 v0 v1 v2 μ) := by
  intro v0 v1 v2 l3 μ hT
  unfold zD79_35
  refine zK_op rfl rfl ?_
  refine zK_op rfl rfl ?_
  exact hc2 v0 v1 (v2 + (1)) _ μ hT
theorem zD79_34_ok {μ0 : xe_Mem} {δ : xe_Dy} {d : Nat} (hd : 0 ≤ d) {c2 : Nat → Int32 → Int32 → xe_Mem → zO} (hc2 : ∀ (v0 : Nat) (v1 : Int32) (v2 : Int32) (l3 : Option Value) (μ : xe_Mem), zT zPc μ0 μ → zK zPc μ0 δ d 79 2 [some (.ref v0), some (.int v1), some (.int v2), l3] [] μ (c2 v0 v1 v2 μ)) : ∀ (v0 : Nat) (v1 : Int32) (v2 : Int32) (s0 : Nat) (s1 : Int32) (l3 : Option Value) (μ : xe_Mem), zT zPc μ0 μ → zK zPc μ0 δ d 79 34 [some (.ref v0), some (.int v1), some (.int v2), l3] [.int s1, .ref s0] μ (zD79_34  c2 v0 v1 v2 s0 s1 μ) := by
  intro v0 v1 v2 s0 s1 l3 μ hT
  unfold zD79_34
  refine zK_o (fun h17 ph17 => ?_)
  refine zK_pI rfl h17 hT ph17 (fun m18 T19 => ?_)
  exact zD79_35_ok hd hc2 v0 v1 v2 _ m18 T19
theorem zD79_2_bok {μ0 : xe_Mem} {δ : xe_Dy} {d : Nat} (hd : 0 ≤ d)  {c2 : Nat → Int32 → Int32 → xe_Mem → zO} (hc2 : ∀ (v0 : Nat) (v1 : Int32) (v2 : Int32) (l3 : Option Value) (μ : xe_Mem), zT zPc μ0 μ → zK zPc μ0 δ d 79 2 [some (.ref v0), some (.int v1), some (.int v2), l3] [] μ (c2 v0 v1 v2 μ)) : ∀ (v0 : Nat) (v1 : Int32) (v2 : Int32) (l3 : Option Value) (μ : xe_Mem), zT zPc μ0 μ → zK zPc μ0 δ d 79 2 [some (.ref v0), some (.int v1), some (.int v2), l3] [] μ (zD79_2_b  c2 v0 v1 v2 μ) := by
  intro v0 v1 v2 l3 μ hT
  unfold zD79_2_b
  refine zK_op rfl rfl ?_
  refine zK_op rfl rfl ?_
  refine zK_o (fun h1 ph1 => ?_)
  refine zK_gI rfl h1 hT ?_
  refine zK_icge rfl (fun _ => ?_) (fun _ => ?_)
  · exact zK_ret0 rfl hT
  refine zK_op rfl rfl ?_
  refine zK_gRs rfl h1 hT (fun b2 => ?_)
  refine zK_op rfl rfl ?_
  refine zK_a (fun N4 h3 ph3 => ?_)
  refine zK_x (fun j5 h6 h7 h8 => ?_)
  refine zK_aR rfl h3 hT h6 h7 h8 (fun b9 => ?_)
  refine zK_op rfl rfl ?_
  refine zK_op rfl rfl ?_
  refine zK_o (fun h10 ph10 => ?_)
  refine zK_gRs rfl h10 hT (fun b11 => ?_)
  refine zK_o (fun h12 ph12 => ?_)
  refine zK_gI rfl h12 hT ?_
  refine zK_op rfl rfl ?_
  refine zK_icne rfl (fun _ => ?_) (fun _ => ?_)
  · refine zK_op rfl rfl ?_
    refine zK_gRs rfl h10 hT (fun b13 => ?_)
    refine zK_o (fun h14 ph14 => ?_)
    refine zK_gI rfl h14 hT ?_
    refine zK_ifle rfl (fun _ => ?_) (fun _ => ?_)
    · exact zD79_35_ok hd hc2 v0 v1 v2 _ μ hT
    refine zK_op rfl rfl ?_
    refine zK_op rfl rfl ?_
    refine zK_pI rfl h10 hT ph10 (fun m15 T16 => ?_)
    refine zK_op rfl rfl ?_
    refine zK_op rfl rfl ?_
    refine zK_gI rfl h1 T16 ?_
    refine zK_ifne rfl (fun _ => ?_) (fun _ => ?_)
    · refine zK_op rfl rfl ?_
      refine zK_op rfl rfl ?_
      refine zK_gI rfl h10 T16 ?_
      refine zK_op rfl rfl ?_
      refine zK_op rfl rfl ?_
      exact zD79_34_ok hd hc2 v0 v1 v2 v0 (1 + (xe_I m15 b9 0)) _ m15 T16
    refine zK_op rfl rfl ?_
    refine zK_gI rfl h1 T16 ?_
    exact zD79_34_ok hd hc2 v0 v1 v2 v0 (xe_I m15 v0 12) _ m15 T16
  exact zD79_35_ok hd hc2 v0 v1 v2 _ μ hT
theorem zD79_2_ok {μ0 : xe_Mem} {δ : xe_Dy} {d : Nat} (hd : 0 ≤ d)  : ∀ n : Nat, ∀ (v0 : Nat) (v1 : Int32) (v2 : Int32) (l3 : Option Value) (μ : xe_Mem), zT zPc μ0 μ → zK zPc μ0 δ d 79 2 [some (.ref v0), some (.int v1), some (.int v2), l3] [] μ (zD79_2  n v0 v1 v2 μ) := by
  intro n
  induction n with
  | zero => exact fun _ _ _ _ _ _  => fun o μ' h => by cases h
  | succ n ih => exact zD79_2_bok hd   ih
theorem zD79_ok {μ0 : xe_Mem} {δ : xe_Dy} {d : Nat} (hd : 0 ≤ d) (a0 : Nat) (a1 : Int32) (μ : xe_Mem) (hT : zT zPc μ0 μ) : zK zPc μ0 δ d 79 0 (xe_init [.ref a0, .int a1] (xM_L 79)) [] μ (zD79 a0 a1 μ) := by
  unfold zD79
  show zK zPc μ0 δ d 79 0 [some (.ref a0), some (.int a1), none, none] [] μ _
  refine zK_op rfl rfl ?_
  refine zK_op rfl rfl ?_
  exact zD79_2_ok hd zfu a0 a1 0 _ μ hT
