/-! methods as functions (by wip/whole/gen/dec.py) -/
/-! 193 LogicalTimesModel.send(I)V -/
def zD193_83 (c2 : Int32 → Int32 → xe_Mem → zO) (v1 : Int32) (v2 : Int32) (μ : xe_Mem) : zO := c2 v1 (v2 + (1)) μ
def zD193_81 (c53 : Int32 → Int32 → Int32 → Int32 → xe_Mem → zO) (v1 : Int32) (v2 : Int32) (v3 : Int32) (v4 : Int32) (μ : xe_Mem) : zO := c53 v1 v2 v3 (v4 + (1)) μ
def zD193_80 (c53 : Int32 → Int32 → Int32 → Int32 → xe_Mem → zO) (v1 : Int32) (v2 : Int32) (v3 : Int32) (v4 : Int32) (μ : xe_Mem) : zO := zD193_81 c53 v1 v2 (v3 + (-1)) v4 μ
def zD193_53_b (c2 : Int32 → Int32 → xe_Mem → zO) (c53 : Int32 → Int32 → Int32 → Int32 → xe_Mem → zO) (v1 : Int32) (v2 : Int32) (v3 : Int32) (v4 : Int32) (μ : xe_Mem) : zO := if (xe_I μ 203 12) ≤ v4 then zD193_83 c2 v1 v2 μ else zq_cI (zD170 v2 v4 μ) fun x32 m30 => if x32 = 0 then zD193_81 c53 v1 v2 v3 v4 m30 else if v3 = 0 then zq_x ((12 * v2) + v4) 288 fun j33 => zq_m (xe_setI m30 263 j33 ((vp_nar .boolean) 1)) fun m37 => zq_m (xe_setI m37 203 76 ((xe_I m37 203 76) + 1)) fun m39 => zD193_80 c53 v1 v2 v3 v4 m39 else zD193_80 c53 v1 v2 v3 v4 m30
def zD193_53  (c2 : Int32 → Int32 → xe_Mem → zO) : Nat → Int32 → Int32 → Int32 → Int32 → xe_Mem → zO
  | 0 => fun _ _ _ _ _  => none
  | n + 1 => zD193_53_b  c2 (zD193_53  c2 n)
def zD193_2_b (c2 : Int32 → Int32 → xe_Mem → zO) (v1 : Int32) (v2 : Int32) (μ : xe_Mem) : zO := if (xe_I μ 203 22) ≤ v2 then some (.inl none, μ) else zq_x v2 24 fun j1 => zq_x v2 24 fun j5 => zq_d (xe_I μ 221 j5) <| zq_x v2 24 fun j10 => zq_vI ((v1 - (xe_I μ 229 j1)) - (((xe_I μ 203 72) / (xe_I μ 221 j5)) * (xe_I μ 228 j10))) fun x14 => zq_x v2 24 fun j15 => if (xe_I μ 218 j15) = (xe_I μ 203 71) then zq_x v2 24 fun j19 => if 0 < (xe_I μ 259 j19) then zD193_83 c2 v1 v2 μ else zq_x v2 24 fun j23 => zq_cI (zD132 x14.toInt64 0 (((xe_I μ 228 j23) - 1).toInt64) μ) fun x29 m27 => if x29 = 0 then zD193_83 c2 v1 v2 m27 else zD193_53 c2 zfu v1 v2 x14 0 m27 else zD193_83 c2 v1 v2 μ
def zD193_2   : Nat → Int32 → Int32 → xe_Mem → zO
  | 0 => fun _ _ _  => none
  | n + 1 => zD193_2_b   (zD193_2   n)
def zD193  (a1 : Int32) (μ : xe_Mem) : zO := zD193_2 zfu a1 0 μ
theorem zD193_83_ok {μ0 : xe_Mem} {δ : xe_Dy} {d : Nat} (hd : 1 ≤ d) {c2 : Int32 → Int32 → xe_Mem → zO} (hc2 : ∀ (v1 : Int32) (v2 : Int32) (l3 : Option Value) (l4 : Option Value) (μ : xe_Mem), zT zPr μ0 μ → zK zPr μ0 δ d 193 2 [some (.ref 203), some (.int v1), some (.int v2), l3, l4] [] μ (c2 v1 v2 μ)) : ∀ (v1 : Int32) (v2 : Int32) (l3 : Option Value) (l4 : Option Value) (μ : xe_Mem), zT zPr μ0 μ → zK zPr μ0 δ d 193 83 [some (.ref 203), some (.int v1), some (.int v2), l3, l4] [] μ (zD193_83  c2 v1 v2 μ) := by
  intro v1 v2 l3 l4 μ hT
  unfold zD193_83
  refine zK_op rfl rfl ?_
  refine zK_op rfl rfl ?_
  exact hc2 v1 (v2 + (1)) _ _ μ hT
theorem zD193_81_ok {μ0 : xe_Mem} {δ : xe_Dy} {d : Nat} (hd : 1 ≤ d) {c53 : Int32 → Int32 → Int32 → Int32 → xe_Mem → zO} (hc53 : ∀ (v1 : Int32) (v2 : Int32) (v3 : Int32) (v4 : Int32) (μ : xe_Mem), zT zPr μ0 μ → zK zPr μ0 δ d 193 53 [some (.ref 203), some (.int v1), some (.int v2), some (.int v3), some (.int v4)] [] μ (c53 v1 v2 v3 v4 μ)) : ∀ (v1 : Int32) (v2 : Int32) (v3 : Int32) (v4 : Int32) (μ : xe_Mem), zT zPr μ0 μ → zK zPr μ0 δ d 193 81 [some (.ref 203), some (.int v1), some (.int v2), some (.int v3), some (.int v4)] [] μ (zD193_81  c53 v1 v2 v3 v4 μ) := by
  intro v1 v2 v3 v4 μ hT
  unfold zD193_81
  refine zK_op rfl rfl ?_
  refine zK_op rfl rfl ?_
  exact hc53 v1 v2 v3 (v4 + (1)) μ hT
theorem zD193_80_ok {μ0 : xe_Mem} {δ : xe_Dy} {d : Nat} (hd : 1 ≤ d) {c53 : Int32 → Int32 → Int32 → Int32 → xe_Mem → zO} (hc53 : ∀ (v1 : Int32) (v2 : Int32) (v3 : Int32) (v4 : Int32) (μ : xe_Mem), zT zPr μ0 μ → zK zPr μ0 δ d 193 53 [some (.ref 203), some (.int v1), some (.int v2), some (.int v3), some (.int v4)] [] μ (c53 v1 v2 v3 v4 μ)) : ∀ (v1 : Int32) (v2 : Int32) (v3 : Int32) (v4 : Int32) (μ : xe_Mem), zT zPr μ0 μ → zK zPr μ0 δ d 193 80 [some (.ref 203), some (.int v1), some (.int v2), some (.int v3), some (.int v4)] [] μ (zD193_80  c53 v1 v2 v3 v4 μ) := by
  intro v1 v2 v3 v4 μ hT
  unfold zD193_80
  refine zK_op rfl rfl ?_
  exact zD193_81_ok hd hc53 v1 v2 (v3 + (-1)) v4 μ hT
theorem zD193_53_bok {μ0 : xe_Mem} {δ : xe_Dy} {d : Nat} (hd : 1 ≤ d) {c2 : Int32 → Int32 → xe_Mem → zO} (hc2 : ∀ (v1 : Int32) (v2 : Int32) (l3 : Option Value) (l4 : Option Value) (μ : xe_Mem), zT zPr μ0 μ → zK zPr μ0 δ d 193 2 [some (.ref 203), some (.int v1), some (.int v2), l3, l4] [] μ (c2 v1 v2 μ)) {c53 : Int32 → Int32 → Int32 → Int32 → xe_Mem → zO} (hc53 : ∀ (v1 : Int32) (v2 : Int32) (v3 : Int32) (v4 : Int32) (μ : xe_Mem), zT zPr μ0 μ → zK zPr μ0 δ d 193 53 [some (.ref 203), some (.int v1), some (.int v2), some (.int v3), some (.int v4)] [] μ (c53 v1 v2 v3 v4 μ)) : ∀ (v1 : Int32) (v2 : Int32) (v3 : Int32) (v4 : Int32) (μ : xe_Mem), zT zPr μ0 μ → zK zPr μ0 δ d 193 53 [some (.ref 203), some (.int v1), some (.int v2), some (.int v3), some (.int v4)] [] μ (zD193_53_b  c2 c53 v1 v2 v3 v4 μ) := by
  intro v1 v2 v3 v4 μ hT
  unfold zD193_53_b
  refine zK_op rfl rfl ?_
  refine zK_op rfl rfl ?_
  refine zK_gI rfl rfl hT ?_
  refine zK_icge rfl (fun _ => ?_) (fun _ => ?_)
  · exact zD193_83_ok hd hc2 v1 v2 _ _ μ hT
  refine zK_op rfl rfl ?_
  refine zK_op rfl rfl ?_
  refine zK_op rfl rfl ?_
  refine zK_cI rfl (as := [.ref 203, .int v2, .int v4]) (rest := []) rfl rfl (xe_rcvO (zT_sh hT rfl)) (Nat.le_of_ble_eq_true rfl) (Nat.le_of_ble_eq_true rfl) (by decide) (fun _ => rfl) (by omega) (zD170_ok (by omega) v2 v4 μ hT) (fun x32 m30 T31 => ?_)
  refine zK_ifne rfl (fun _ => ?_) (fun _ => ?_)
  · refine zK_op rfl rfl ?_
    exact zD193_81_ok hd hc53 v1 v2 v3 v4 m30 T31
  refine zK_op rfl rfl ?_
  refine zK_ifne rfl (fun _ => ?_) (fun _ => ?_)
  · refine zK_op rfl rfl ?_
    refine zK_gRl (b := 263) rfl rfl rfl T31 ?_
    refine zK_op rfl rfl ?_
    refine zK_op rfl rfl ?_
    refine zK_op rfl rfl ?_
    refine zK_op rfl rfl ?_
    refine zK_op rfl rfl ?_
    refine zK_op rfl rfl ?_
    refine zK_x (fun j33 h34 h35 h36 => ?_)
    refine zK_sI (a := 263) (g := (vp_nar .boolean)) rfl rfl T31 h34 h35 h36 rfl (fun m37 T38 => ?_)
    refine zK_op rfl rfl ?_
    refine zK_op rfl rfl ?_
    refine zK_gI rfl rfl T38 ?_
    refine zK_op rfl rfl ?_
    refine zK_op rfl rfl ?_
    refine zK_pI rfl rfl T38 rfl (fun m39 T40 => ?_)
    exact zD193_80_ok hd hc53 v1 v2 v3 v4 m39 T40
  exact zD193_80_ok hd hc53 v1 v2 v3 v4 m30 T31
theorem zD193_53_ok {μ0 : xe_Mem} {δ : xe_Dy} {d : Nat} (hd : 1 ≤ d) {c2 : Int32 → Int32 → xe_Mem → zO} (hc2 : ∀ (v1 : Int32) (v2 : Int32) (l3 : Option Value) (l4 : Option Value) (μ : xe_Mem), zT zPr μ0 μ → zK zPr μ0 δ d 193 2 [some (.ref 203), some (.int v1), some (.int v2), l3, l4] [] μ (c2 v1 v2 μ)) : ∀ n : Nat, ∀ (v1 : Int32) (v2 : Int32) (v3 : Int32) (v4 : Int32) (μ : xe_Mem), zT zPr μ0 μ → zK zPr μ0 δ d 193 53 [some (.ref 203), some (.int v1), some (.int v2), some (.int v3), some (.int v4)] [] μ (zD193_53  c2 n v1 v2 v3 v4 μ) := by
  intro n
  induction n with
  | zero => exact fun _ _ _ _ _ _  => fun o μ' h => by cases h
  | succ n ih => exact zD193_53_bok hd  hc2 ih
theorem zD193_2_bok {μ0 : xe_Mem} {δ : xe_Dy} {d : Nat} (hd : 1 ≤ d)  {c2 : Int32 → Int32 → xe_Mem → zO} (hc2 : ∀ (v1 : Int32) (v2 : Int32) (l3 : Option Value) (l4 : Option Value) (μ : xe_Mem), zT zPr μ0 μ → zK zPr μ0 δ d 193 2 [some (.ref 203), some (.int v1), some (.int v2), l3, l4] [] μ (c2 v1 v2 μ)) : ∀ (v1 : Int32) (v2 : Int32) (l3 : Option Value) (l4 : Option Value) (μ : xe_Mem), zT zPr μ0 μ → zK zPr μ0 δ d 193 2 [some (.ref 203), some (.int v1), some (.int v2), l3, l4] [] μ (zD193_2_b  c2 v1 v2 μ) := by
  intro v1 v2 l3 l4 μ hT
  unfold zD193_2_b
  refine zK_op rfl rfl ?_
  refine zK_op rfl rfl ?_
  refine zK_gI rfl rfl hT ?_
  refine zK_icge rfl (fun _ => ?_) (fun _ => ?_)
  · exact zK_ret0 rfl hT
  refine zK_op rfl rfl ?_
  refine zK_op rfl rfl ?_
  refine zK_gRl (b := 229) rfl rfl rfl hT ?_
  refine zK_op rfl rfl ?_
  refine zK_x (fun j1 h2 h3 h4 => ?_)
  refine zK_aI rfl rfl hT h2 h3 h4 ?_
  refine zK_op rfl rfl ?_
  refine zK_op rfl rfl ?_
  refine zK_gI rfl rfl hT ?_
  refine zK_op rfl rfl ?_
  refine zK_gRl (b := 221) rfl rfl rfl hT ?_
  refine zK_op rfl rfl ?_
  refine zK_x (fun j5 h6 h7 h8 => ?_)
  refine zK_aI rfl rfl hT h6 h7 h8 ?_
  refine zK_dv (fun h9 => ?_)
  refine zK_i2d rfl h9 ?_
  refine zK_op rfl rfl ?_
  refine zK_gRl (b := 228) rfl rfl rfl hT ?_
  refine zK_op rfl rfl ?_
  refine zK_x (fun j10 h11 h12 h13 => ?_)
  refine zK_aI rfl rfl hT h11 h12 h13 ?_
  refine zK_op rfl rfl ?_
  refine zK_op rfl rfl ?_
  refine zK_vI (fun x14 => ?_)
  refine zK_op rfl rfl ?_
  refine zK_op rfl rfl ?_
  refine zK_gRl (b := 218) rfl rfl rfl hT ?_
  refine zK_op rfl rfl ?_
  refine zK_x (fun j15 h16 h17 h18 => ?_)
  refine zK_aI rfl rfl hT h16 h17 h18 ?_
  refine zK_op rfl rfl ?_
  refine zK_gI rfl rfl hT ?_
  refine zK_icne rfl (fun _ => ?_) (fun _ => ?_)
  · refine zK_op rfl rfl ?_
    refine zK_gRl (b := 259) rfl rfl rfl hT ?_
    refine zK_op rfl rfl ?_
    refine zK_x (fun j19 h20 h21 h22 => ?_)
    refine zK_aI rfl rfl hT h20 h21 h22 ?_
    refine zK_ifgt rfl (fun _ => ?_) (fun _ => ?_)
    · exact zD193_83_ok hd hc2 v1 v2 _ _ μ hT
    refine zK_op rfl rfl ?_
    refine zK_op rfl rfl ?_
    refine zK_op rfl rfl ?_
    refine zK_op rfl rfl ?_
    refine zK_gRl (b := 228) rfl rfl rfl hT ?_
    refine zK_op rfl rfl ?_
    refine zK_x (fun j23 h24 h25 h26 => ?_)
    refine zK_aI rfl rfl hT h24 h25 h26 ?_
    refine zK_op rfl rfl ?_
    refine zK_op rfl rfl ?_
    refine zK_op rfl rfl ?_
    refine zK_cI rfl (as := [.long x14.toInt64, .long 0, .long (((xe_I μ 228 j23) - 1).toInt64)]) (rest := []) rfl rfl rfl (Nat.le_of_ble_eq_true rfl) (Nat.le_of_ble_eq_true rfl) (by decide) (fun _ => rfl) (by omega) (zD132_ok (by omega) x14.toInt64 0 (((xe_I μ 228 j23) - 1).toInt64) μ hT) (fun x29 m27 T28 => ?_)
    refine zK_ifne rfl (fun _ => ?_) (fun _ => ?_)
    · refine zK_op rfl rfl ?_
      exact zD193_83_ok hd hc2 v1 v2 _ _ m27 T28
    refine zK_op rfl rfl ?_
    refine zK_op rfl rfl ?_
    exact zD193_53_ok hd hc2 zfu v1 v2 x14 0 m27 T28
  exact zD193_83_ok hd hc2 v1 v2 _ _ μ hT
theorem zD193_2_ok {μ0 : xe_Mem} {δ : xe_Dy} {d : Nat} (hd : 1 ≤ d)  : ∀ n : Nat, ∀ (v1 : Int32) (v2 : Int32) (l3 : Option Value) (l4 : Option Value) (μ : xe_Mem), zT zPr μ0 μ → zK zPr μ0 δ d 193 2 [some (.ref 203), some (.int v1), some (.int v2), l3, l4] [] μ (zD193_2  n v1 v2 μ) := by
  intro n
  induction n with
  | zero => exact fun _ _ _ _ _ _  => fun o μ' h => by cases h
  | succ n ih => exact zD193_2_bok hd   ih
theorem zD193_ok {μ0 : xe_Mem} {δ : xe_Dy} {d : Nat} (hd : 1 ≤ d) (a1 : Int32) (μ : xe_Mem) (hT : zT zPr μ0 μ) : zK zPr μ0 δ d 193 0 (xe_init [.ref 203, .int a1] (xM_L 193)) [] μ (zD193 a1 μ) := by
  unfold zD193
  show zK zPr μ0 δ d 193 0 [some (.ref 203), some (.int a1), none, none, none] [] μ _
  refine zK_op rfl rfl ?_
  refine zK_op rfl rfl ?_
  exact zD193_2_ok hd zfu a1 0 _ _ μ hT
/-! 187 LogicalTimesModel.step()V -/
def zD187_149 (c104 : Int32 → xe_Mem → zO) (v1 : Int32) (μ : xe_Mem) : zO := c104 (v1 + (1)) μ
def zD187_104_b (c104 : Int32 → xe_Mem → zO) (v1 : Int32) (μ : xe_Mem) : zO := if 4 ≤ v1 then zq_m (xe_setI μ 203 72 ((xe_I μ 203 72) + 1)) fun m1 => some (.inl none, m1) else zq_cI (zD172 (xe_I μ 203 71) v1 (xe_I μ 203 72) μ) fun x5 m3 => zq_x v1 4 fun j6 => zq_m (xe_setI m3 258 j6 x5) fun m10 => zq_x v1 4 fun j12 => if 0 ≤ (xe_I m10 258 j12) then zq_x v1 4 fun j16 => zq_x (xe_I m10 258 j16) 24 fun j20 => zq_x (xe_I m10 258 j16) 24 fun j24 => zq_m (xe_setI m10 259 j24 ((xe_I m10 259 j20) - 1)) fun m28 => zq_x v1 4 fun j30 => zq_x (xe_I m28 258 j30) 24 fun j34 => if (xe_I m28 259 j34) = 0 then zq_m (xe_setI m28 203 77 ((xe_I m28 203 77) + 1)) fun m38 => zD187_149 c104 v1 m38 else zD187_149 c104 v1 m28 else zD187_149 c104 v1 m10
def zD187_104   : Nat → Int32 → xe_Mem → zO
  | 0 => fun _ _  => none
  | n + 1 => zD187_104_b   (zD187_104   n)
def zD187_100 (c71 : Int32 → xe_Mem → zO) (v1 : Int32) (μ : xe_Mem) : zO := c71 (v1 + (1)) μ
def zD187_71_b (c71 : Int32 → xe_Mem → zO) (v1 : Int32) (μ : xe_Mem) : zO := if (xe_I μ 203 43) ≤ v1 then zD187_104 zfu 0 μ else zq_x v1 480 fun j40 => if (xe_I μ 236 j40) = (xe_I μ 203 71) then zq_x v1 480 fun j44 => if (xe_I μ 237 j44) = (xe_I μ 203 72) then zq_x v1 480 fun j48 => if (xe_I μ 238 j48) < 0 then zD187_100 c71 v1 μ else zq_x v1 480 fun j52 => zq_cV (zD193 (xe_I μ 238 j52) μ) fun m56 => zD187_100 c71 v1 m56 else zD187_100 c71 v1 μ else zD187_100 c71 v1 μ
def zD187_71   : Nat → Int32 → xe_Mem → zO
  | 0 => fun _ _  => none
  | n + 1 => zD187_71_b   (zD187_71   n)
def zD187_67 (c45 : Int32 → xe_Mem → zO) (v1 : Int32) (μ : xe_Mem) : zO := c45 (v1 + (1)) μ
def zD187_45_b (c45 : Int32 → xe_Mem → zO) (v1 : Int32) (μ : xe_Mem) : zO := if (xe_I μ 203 22) ≤ v1 then zD187_71 zfu 0 μ else zq_x v1 24 fun j58 => if (xe_I μ 218 j58) = (xe_I μ 203 71) then zq_x v1 24 fun j62 => zq_d (xe_I μ 221 j62) <| if ((xe_I μ 203 72) - (xe_I μ 203 72) / (xe_I μ 221 j62) * (xe_I μ 221 j62)) = 0 then zq_cV (zD192 v1 μ) fun m67 => zD187_67 c45 v1 m67 else zD187_67 c45 v1 μ else zD187_67 c45 v1 μ
def zD187_45   : Nat → Int32 → xe_Mem → zO
  | 0 => fun _ _  => none
  | n + 1 => zD187_45_b   (zD187_45   n)
def zD187_43 (μ : xe_Mem) : zO := zD187_45 zfu 0 μ
def zD187_40 (μ : xe_Mem) : zO := zq_m (xe_setI μ 203 72 0) fun m76 => zD187_43 m76
def zD187_27 (c5 : Int32 → xe_Mem → zO) (v1 : Int32) (μ : xe_Mem) : zO := c5 (v1 + (1)) μ
def zD187_5_b (c5 : Int32 → xe_Mem → zO) (v1 : Int32) (μ : xe_Mem) : zO := if (xe_I μ 203 22) ≤ v1 then zq_cI (zD189 μ) fun x71 m69 => if x71 = 0 then zq_x (xe_I m69 203 71) 4 fun j72 => if (xe_I m69 203 72) = (xe_I m69 214 j72) then zD187_40 m69 else zD187_43 m69 else zD187_40 m69 else zq_x v1 24 fun j78 => if (xe_I μ 218 j78) = (xe_I μ 203 71) then zq_x v1 24 fun j82 => zq_d (xe_I μ 221 j82) <| if ((xe_I μ 203 72) - (xe_I μ 203 72) / (xe_I μ 221 j82) * (xe_I μ 221 j82)) = 0 then zq_cV (zD188 v1 μ) fun m87 => zD187_27 c5 v1 m87 else zD187_27 c5 v1 μ else zD187_27 c5 v1 μ
def zD187_5   : Nat → Int32 → xe_Mem → zO
  | 0 => fun _ _  => none
  | n + 1 => zD187_5_b   (zD187_5   n)
def zD187   (μ : xe_Mem) : zO := if (xe_I μ 203 72) ≤ 0 then zD187_43 μ else zD187_5 zfu 0 μ
theorem zD187_149_ok {μ0 : xe_Mem} {δ : xe_Dy} {d : Nat} (hd : 3 ≤ d) {c104 : Int32 → xe_Mem → zO} (hc104 : ∀ (v1 : Int32) (μ : xe_Mem), zT zPr μ0 μ → zK zPr μ0 δ d 187 104 [some (.ref 203), some (.int v1)] [] μ (c104 v1 μ)) : ∀ (v1 : Int32) (μ : xe_Mem), zT zPr μ0 μ → zK zPr μ0 δ d 187 149 [some (.ref 203), some (.int v1)] [] μ (zD187_149  c104 v1 μ) := by
  intro v1 μ hT
  unfold zD187_149
  refine zK_op rfl rfl ?_
  refine zK_op rfl rfl ?_
  exact hc104 (v1 + (1)) μ hT
theorem zD187_104_bok {μ0 : xe_Mem} {δ : xe_Dy} {d : Nat} (hd : 3 ≤ d)  {c104 : Int32 → xe_Mem → zO} (hc104 : ∀ (v1 : Int32) (μ : xe_Mem), zT zPr μ0 μ → zK zPr μ0 δ d 187 104 [some (.ref 203), some (.int v1)] [] μ (c104 v1 μ)) : ∀ (v1 : Int32) (μ : xe_Mem), zT zPr μ0 μ → zK zPr μ0 δ d 187 104 [some (.ref 203), some (.int v1)] [] μ (zD187_104_b  c104 v1 μ) := by
  intro v1 μ hT
  unfold zD187_104_b
  refine zK_op rfl rfl ?_
  refine zK_op rfl rfl ?_
  refine zK_icge rfl (fun _ => ?_) (fun _ => ?_)
  · refine zK_op rfl rfl ?_
    refine zK_op rfl rfl ?_
    refine zK_gI rfl rfl hT ?_
    refine zK_op rfl rfl ?_
    refine zK_op rfl rfl ?_
    refine zK_pI rfl rfl hT rfl (fun m1 T2 => ?_)
    exact zK_ret0 rfl T2
  refine zK_op rfl rfl ?_
  refine zK_gRl (b := 258) rfl rfl rfl hT ?_
  refine zK_op rfl rfl ?_
  refine zK_op rfl rfl ?_
  refine zK_op rfl rfl ?_
  refine zK_gI rfl rfl hT ?_
  refine zK_op rfl rfl ?_
  refine zK_op rfl rfl ?_
  refine zK_gI rfl rfl hT ?_
  refine zK_cI rfl (as := [.ref 203, .int (xe_I μ 203 71), .int v1, .int (xe_I μ 203 72)]) (rest := [.int v1, .ref 258]) rfl rfl (xe_rcvO (zT_sh hT rfl)) (Nat.le_of_ble_eq_true rfl) (Nat.le_of_ble_eq_true rfl) (by decide) (fun _ => rfl) (by omega) (zD172_ok (by omega) (xe_I μ 203 71) v1 (xe_I μ 203 72) μ hT) (fun x5 m3 T4 => ?_)
  refine zK_x (fun j6 h7 h8 h9 => ?_)
  refine zK_sI (a := 258) (g := (fun x => x)) rfl rfl T4 h7 h8 h9 rfl (fun m10 T11 => ?_)
  refine zK_op rfl rfl ?_
  refine zK_gRl (b := 258) rfl rfl rfl T11 ?_
  refine zK_op rfl rfl ?_
  refine zK_x (fun j12 h13 h14 h15 => ?_)
  refine zK_aI rfl rfl T11 h13 h14 h15 ?_
  refine zK_ifge rfl (fun _ => ?_) (fun _ => ?_)
  · refine zK_op rfl rfl ?_
    refine zK_gRl (b := 259) rfl rfl rfl T11 ?_
    refine zK_op rfl rfl ?_
    refine zK_gRl (b := 258) rfl rfl rfl T11 ?_
    refine zK_op rfl rfl ?_
    refine zK_x (fun j16 h17 h18 h19 => ?_)
    refine zK_aI rfl rfl T11 h17 h18 h19 ?_
    refine zK_op rfl rfl ?_
    refine zK_x (fun j20 h21 h22 h23 => ?_)
    refine zK_aI rfl rfl T11 h21 h22 h23 ?_
    refine zK_op rfl rfl ?_
    refine zK_op rfl rfl ?_
    refine zK_x (fun j24 h25 h26 h27 => ?_)
    refine zK_sI (a := 259) (g := (fun x => x)) rfl rfl T11 h25 h26 h27 rfl (fun m28 T29 => ?_)
    refine zK_op rfl rfl ?_
    refine zK_gRl (b := 259) rfl rfl rfl T29 ?_
    refine zK_op rfl rfl ?_
    refine zK_gRl (b := 258) rfl rfl rfl T29 ?_
    refine zK_op rfl rfl ?_
    refine zK_x (fun j30 h31 h32 h33 => ?_)
    refine zK_aI rfl rfl T29 h31 h32 h33 ?_
    refine zK_x (fun j34 h35 h36 h37 => ?_)
    refine zK_aI rfl rfl T29 h35 h36 h37 ?_
    refine zK_ifne rfl (fun _ => ?_) (fun _ => ?_)
    · refine zK_op rfl rfl ?_
      refine zK_op rfl rfl ?_
      refine zK_gI rfl rfl T29 ?_
      refine zK_op rfl rfl ?_
      refine zK_op rfl rfl ?_
      refine zK_pI rfl rfl T29 rfl (fun m38 T39 => ?_)
      exact zD187_149_ok hd hc104 v1 m38 T39
    exact zD187_149_ok hd hc104 v1 m28 T29
  refine zK_op rfl rfl ?_
  exact zD187_149_ok hd hc104 v1 m10 T11
theorem zD187_104_ok {μ0 : xe_Mem} {δ : xe_Dy} {d : Nat} (hd : 3 ≤ d)  : ∀ n : Nat, ∀ (v1 : Int32) (μ : xe_Mem), zT zPr μ0 μ → zK zPr μ0 δ d 187 104 [some (.ref 203), some (.int v1)] [] μ (zD187_104  n v1 μ) := by
  intro n
  induction n with
  | zero => exact fun _ _ _  => fun o μ' h => by cases h
  | succ n ih => exact zD187_104_bok hd   ih
theorem zD187_100_ok {μ0 : xe_Mem} {δ : xe_Dy} {d : Nat} (hd : 3 ≤ d) {c71 : Int32 → xe_Mem → zO} (hc71 : ∀ (v1 : Int32) (μ : xe_Mem), zT zPr μ0 μ → zK zPr μ0 δ d 187 71 [some (.ref 203), some (.int v1)] [] μ (c71 v1 μ)) : ∀ (v1 : Int32) (μ : xe_Mem), zT zPr μ0 μ → zK zPr μ0 δ d 187 100 [some (.ref 203), some (.int v1)] [] μ (zD187_100  c71 v1 μ) := by
  intro v1 μ hT
  unfold zD187_100
  refine zK_op rfl rfl ?_
  refine zK_op rfl rfl ?_
  exact hc71 (v1 + (1)) μ hT
theorem zD187_71_bok {μ0 : xe_Mem} {δ : xe_Dy} {d : Nat} (hd : 3 ≤ d)  {c71 : Int32 → xe_Mem → zO} (hc71 : ∀ (v1 : Int32) (μ : xe_Mem), zT zPr μ0 μ → zK zPr μ0 δ d 187 71 [some (.ref 203), some (.int v1)] [] μ (c71 v1 μ)) : ∀ (v1 : Int32) (μ : xe_Mem), zT zPr μ0 μ → zK zPr μ0 δ d 187 71 [some (.ref 203), some (.int v1)] [] μ (zD187_71_b  c71 v1 μ) := by
  intro v1 μ hT
  unfold zD187_71_b
  refine zK_op rfl rfl ?_
  refine zK_op rfl rfl ?_
  refine zK_gI rfl rfl hT ?_
  refine zK_icge rfl (fun _ => ?_) (fun _ => ?_)
  · refine zK_op rfl rfl ?_
    refine zK_op rfl rfl ?_
    exact zD187_104_ok hd zfu 0 μ hT
  refine zK_op rfl rfl ?_
  refine zK_gRl (b := 236) rfl rfl rfl hT ?_
  refine zK_op rfl rfl ?_
  refine zK_x (fun j40 h41 h42 h43 => ?_)
  refine zK_aI rfl rfl hT h41 h42 h43 ?_
  refine zK_op rfl rfl ?_
  refine zK_gI rfl rfl hT ?_
  refine zK_icne rfl (fun _ => ?_) (fun _ => ?_)
  · refine zK_op rfl rfl ?_
    refine zK_gRl (b := 237) rfl rfl rfl hT ?_
    refine zK_op rfl rfl ?_
    refine zK_x (fun j44 h45 h46 h47 => ?_)
    refine zK_aI rfl rfl hT h45 h46 h47 ?_
    refine zK_op rfl rfl ?_
    refine zK_gI rfl rfl hT ?_
    refine zK_icne rfl (fun _ => ?_) (fun _ => ?_)
    · refine zK_op rfl rfl ?_
      refine zK_gRl (b := 238) rfl rfl rfl hT ?_
      refine zK_op rfl rfl ?_
      refine zK_x (fun j48 h49 h50 h51 => ?_)
      refine zK_aI rfl rfl hT h49 h50 h51 ?_
      refine zK_iflt rfl (fun _ => ?_) (fun _ => ?_)
      · exact zD187_100_ok hd hc71 v1 μ hT
      refine zK_op rfl rfl ?_
      refine zK_op rfl rfl ?_
      refine zK_gRl (b := 238) rfl rfl rfl hT ?_
      refine zK_op rfl rfl ?_
      refine zK_x (fun j52 h53 h54 h55 => ?_)
      refine zK_aI rfl rfl hT h53 h54 h55 ?_
      refine zK_cV rfl (as := [.ref 203, .int (xe_I μ 238 j52)]) (rest := []) rfl rfl (xe_rcvO (zT_sh hT rfl)) (Nat.le_of_ble_eq_true rfl) (Nat.le_of_ble_eq_true rfl) (by decide) (fun _ => rfl) (by omega) (zD193_ok (by omega) (xe_I μ 238 j52) μ hT) (fun m56 T57 => ?_)
      exact zD187_100_ok hd hc71 v1 m56 T57
    exact zD187_100_ok hd hc71 v1 μ hT
  exact zD187_100_ok hd hc71 v1 μ hT
theorem zD187_71_ok {μ0 : xe_Mem} {δ : xe_Dy} {d : Nat} (hd : 3 ≤ d)  : ∀ n : Nat, ∀ (v1 : Int32) (μ : xe_Mem), zT zPr μ0 μ → zK zPr μ0 δ d 187 71 [some (.ref 203), some (.int v1)] [] μ (zD187_71  n v1 μ) := by
  intro n
  induction n with
  | zero => exact fun _ _ _  => fun o μ' h => by cases h
  | succ n ih => exact zD187_71_bok hd   ih
theorem zD187_67_ok {μ0 : xe_Mem} {δ : xe_Dy} {d : Nat} (hd : 3 ≤ d) {c45 : Int32 → xe_Mem → zO} (hc45 : ∀ (v1 : Int32) (μ : xe_Mem), zT zPr μ0 μ → zK zPr μ0 δ d 187 45 [some (.ref 203), some (.int v1)] [] μ (c45 v1 μ)) : ∀ (v1 : Int32) (μ : xe_Mem), zT zPr μ0 μ → zK zPr μ0 δ d 187 67 [some (.ref 203), some (.int v1)] [] μ (zD187_67  c45 v1 μ) := by
  intro v1 μ hT
  unfold zD187_67
  refine zK_op rfl rfl ?_
  refine zK_op rfl rfl ?_
  exact hc45 (v1 + (1)) μ hT
theorem zD187_45_bok {μ0 : xe_Mem} {δ : xe_Dy} {d : Nat} (hd : 3 ≤ d)  {c45 : Int32 → xe_Mem → zO} (hc45 : ∀ (v1 : Int32) (μ : xe_Mem), zT zPr μ0 μ → zK zPr μ0 δ d 187 45 [some (.ref 203), some (.int v1)] [] μ (c45 v1 μ)) : ∀ (v1 : Int32) (μ : xe_Mem), zT zPr μ0 μ → zK zPr μ0 δ d 187 45 [some (.ref 203), some (.int v1)] [] μ (zD187_45_b  c45 v1 μ) := by
  intro v1 μ hT
  unfold zD187_45_b
  refine zK_op rfl rfl ?_
  refine zK_op rfl rfl ?_
  refine zK_gI rfl rfl hT ?_
  refine zK_icge rfl (fun _ => ?_) (fun _ => ?_)
  · refine zK_op rfl rfl ?_
    refine zK_op rfl rfl ?_
    exact zD187_71_ok hd zfu 0 μ hT
  refine zK_op rfl rfl ?_
  refine zK_gRl (b := 218) rfl rfl rfl hT ?_
  refine zK_op rfl rfl ?_
  refine zK_x (fun j58 h59 h60 h61 => ?_)
  refine zK_aI rfl rfl hT h59 h60 h61 ?_
  refine zK_op rfl rfl ?_
  refine zK_gI rfl rfl hT ?_
  refine zK_icne rfl (fun _ => ?_) (fun _ => ?_)
  · refine zK_op rfl rfl ?_
    refine zK_gI rfl rfl hT ?_
    refine zK_op rfl rfl ?_
    refine zK_gRl (b := 221) rfl rfl rfl hT ?_
    refine zK_op rfl rfl ?_
    refine zK_x (fun j62 h63 h64 h65 => ?_)
    refine zK_aI rfl rfl hT h63 h64 h65 ?_
    refine zK_dv (fun h66 => ?_)
    refine zK_i2d rfl h66 ?_
    refine zK_ifne rfl (fun _ => ?_) (fun _ => ?_)
    · refine zK_op rfl rfl ?_
      refine zK_op rfl rfl ?_
      refine zK_cV rfl (as := [.ref 203, .int v1]) (rest := []) rfl rfl (xe_rcvO (zT_sh hT rfl)) (Nat.le_of_ble_eq_true rfl) (Nat.le_of_ble_eq_true rfl) (by decide) (fun _ => rfl) (by omega) (zD192_ok (by omega) v1 μ hT) (fun m67 T68 => ?_)
      exact zD187_67_ok hd hc45 v1 m67 T68
    exact zD187_67_ok hd hc45 v1 μ hT
  exact zD187_67_ok hd hc45 v1 μ hT
theorem zD187_45_ok {μ0 : xe_Mem} {δ : xe_Dy} {d : Nat} (hd : 3 ≤ d)  : ∀ n : Nat, ∀ (v1 : Int32) (μ : xe_Mem), zT zPr μ0 μ → zK zPr μ0 δ d 187 45 [some (.ref 203), some (.int v1)] [] μ (zD187_45  n v1 μ) := by
  intro n
  induction n with
  | zero => exact fun _ _ _  => fun o μ' h => by cases h
  | succ n ih => exact zD187_45_bok hd   ih
theorem zD187_43_ok {μ0 : xe_Mem} {δ : xe_Dy} {d : Nat} (hd : 3 ≤ d)  : ∀ (l1 : Option Value) (μ : xe_Mem), zT zPr μ0 μ → zK zPr μ0 δ d 187 43 [some (.ref 203), l1] [] μ (zD187_43  μ) := by
  intro l1 μ hT
  unfold zD187_43
  refine zK_op rfl rfl ?_
  refine zK_op rfl rfl ?_
  exact zD187_45_ok hd zfu 0 μ hT
theorem zD187_40_ok {μ0 : xe_Mem} {δ : xe_Dy} {d : Nat} (hd : 3 ≤ d)  : ∀ (l1 : Option Value) (μ : xe_Mem), zT zPr μ0 μ → zK zPr μ0 δ d 187 40 [some (.ref 203), l1] [] μ (zD187_40  μ) := by
  intro l1 μ hT
  unfold zD187_40
  refine zK_op rfl rfl ?_
  refine zK_op rfl rfl ?_
  refine zK_pI rfl rfl hT rfl (fun m76 T77 => ?_)
  exact zD187_43_ok hd _ m76 T77
theorem zD187_27_ok {μ0 : xe_Mem} {δ : xe_Dy} {d : Nat} (hd : 3 ≤ d) {c5 : Int32 → xe_Mem → zO} (hc5 : ∀ (v1 : Int32) (μ : xe_Mem), zT zPr μ0 μ → zK zPr μ0 δ d 187 5 [some (.ref 203), some (.int v1)] [] μ (c5 v1 μ)) : ∀ (v1 : Int32) (μ : xe_Mem), zT zPr μ0 μ → zK zPr μ0 δ d 187 27 [some (.ref 203), some (.int v1)] [] μ (zD187_27  c5 v1 μ) := by
  intro v1 μ hT
  unfold zD187_27
  refine zK_op rfl rfl ?_
  refine zK_op rfl rfl ?_
  exact hc5 (v1 + (1)) μ hT
theorem zD187_5_bok {μ0 : xe_Mem} {δ : xe_Dy} {d : Nat} (hd : 3 ≤ d)  {c5 : Int32 → xe_Mem → zO} (hc5 : ∀ (v1 : Int32) (μ : xe_Mem), zT zPr μ0 μ → zK zPr μ0 δ d 187 5 [some (.ref 203), some (.int v1)] [] μ (c5 v1 μ)) : ∀ (v1 : Int32) (μ : xe_Mem), zT zPr μ0 μ → zK zPr μ0 δ d 187 5 [some (.ref 203), some (.int v1)] [] μ (zD187_5_b  c5 v1 μ) := by
  intro v1 μ hT
  unfold zD187_5_b
  refine zK_op rfl rfl ?_
  refine zK_op rfl rfl ?_
  refine zK_gI rfl rfl hT ?_
  refine zK_icge rfl (fun _ => ?_) (fun _ => ?_)
  · refine zK_op rfl rfl ?_
    refine zK_cI rfl (as := [.ref 203]) (rest := []) rfl rfl (xe_rcvO (zT_sh hT rfl)) (Nat.le_of_ble_eq_true rfl) (Nat.le_of_ble_eq_true rfl) (by decide) (fun _ => rfl) (by omega) (zD189_ok (by omega) μ hT) (fun x71 m69 T70 => ?_)
    refine zK_ifne rfl (fun _ => ?_) (fun _ => ?_)
    · refine zK_op rfl rfl ?_
      refine zK_gI rfl rfl T70 ?_
      refine zK_op rfl rfl ?_
      refine zK_gRl (b := 214) rfl rfl rfl T70 ?_
      refine zK_op rfl rfl ?_
      refine zK_gI rfl rfl T70 ?_
      refine zK_x (fun j72 h73 h74 h75 => ?_)
      refine zK_aI rfl rfl T70 h73 h74 h75 ?_
      refine zK_icne rfl (fun _ => ?_) (fun _ => ?_)
      · exact zD187_40_ok hd _ m69 T70
      exact zD187_43_ok hd _ m69 T70
    exact zD187_40_ok hd _ m69 T70
  refine zK_op rfl rfl ?_
  refine zK_gRl (b := 218) rfl rfl rfl hT ?_
  refine zK_op rfl rfl ?_
  refine zK_x (fun j78 h79 h80 h81 => ?_)
  refine zK_aI rfl rfl hT h79 h80 h81 ?_
  refine zK_op rfl rfl ?_
  refine zK_gI rfl rfl hT ?_
  refine zK_icne rfl (fun _ => ?_) (fun _ => ?_)
  · refine zK_op rfl rfl ?_
    refine zK_gI rfl rfl hT ?_
    refine zK_op rfl rfl ?_
    refine zK_gRl (b := 221) rfl rfl rfl hT ?_
    refine zK_op rfl rfl ?_
    refine zK_x (fun j82 h83 h84 h85 => ?_)
    refine zK_aI rfl rfl hT h83 h84 h85 ?_
    refine zK_dv (fun h86 => ?_)
    refine zK_i2d rfl h86 ?_
    refine zK_ifne rfl (fun _ => ?_) (fun _ => ?_)
    · refine zK_op rfl rfl ?_
      refine zK_op rfl rfl ?_
      refine zK_cV rfl (as := [.ref 203, .int v1]) (rest := []) rfl rfl (xe_rcvO (zT_sh hT rfl)) (Nat.le_of_ble_eq_true rfl) (Nat.le_of_ble_eq_true rfl) (by decide) (fun _ => rfl) (by omega) (zD188_ok (by omega) v1 μ hT) (fun m87 T88 => ?_)
      exact zD187_27_ok hd hc5 v1 m87 T88
    exact zD187_27_ok hd hc5 v1 μ hT
  exact zD187_27_ok hd hc5 v1 μ hT
theorem zD187_5_ok {μ0 : xe_Mem} {δ : xe_Dy} {d : Nat} (hd : 3 ≤ d)  : ∀ n : Nat, ∀ (v1 : Int32) (μ : xe_Mem), zT zPr μ0 μ → zK zPr μ0 δ d 187 5 [some (.ref 203), some (.int v1)] [] μ (zD187_5  n v1 μ) := by
  intro n
  induction n with
  | zero => exact fun _ _ _  => fun o μ' h => by cases h
  | succ n ih => exact zD187_5_bok hd   ih
theorem zD187_ok {μ0 : xe_Mem} {δ : xe_Dy} {d : Nat} (hd : 3 ≤ d) (μ : xe_Mem) (hT : zT zPr μ0 μ) : zK zPr μ0 δ d 187 0 (xe_init [.ref 203] (xM_L 187)) [] μ (zD187 μ) := by
  unfold zD187
  show zK zPr μ0 δ d 187 0 [some (.ref 203), none] [] μ _
  refine zK_op rfl rfl ?_
  refine zK_gI rfl rfl hT ?_
  refine zK_ifle rfl (fun _ => ?_) (fun _ => ?_)
  · exact zD187_43_ok hd _ μ hT
  refine zK_op rfl rfl ?_
  refine zK_op rfl rfl ?_
  exact zD187_5_ok hd zfu 0 μ hT
/-! 186 LogicalTimesModel.tick(I)V -/
def zD186_28 (μ : xe_Mem) : zO := some (.inl none, μ)
def zD186_18_b (c18 : Int32 → Int32 → xe_Mem → zO) (v1 : Int32) (v2 : Int32) (μ : xe_Mem) : zO := if v1 ≤ v2 then zD186_28 μ else if (xe_I μ 203 0) = 0 then zq_cV (zD187 μ) fun m3 => c18 v1 (v2 + (1)) m3 else zD186_28 μ
def zD186_18   : Nat → Int32 → Int32 → xe_Mem → zO
  | 0 => fun _ _ _  => none
  | n + 1 => zD186_18_b   (zD186_18   n)
def zD186_15 (v1 : Int32) (s1 : Int32) (μ : xe_Mem) : zO := zq_m (xe_setI μ 203 0 s1) fun m1 => zD186_18 zfu v1 0 m1
def zD186  (a1 : Int32) (μ : xe_Mem) : zO := if (xe_I μ 203 70) = 0 then zD186_15 a1 1 μ else zq_cI (zD132 a1.toInt64 1 200 μ) fun x7 m5 => if x7 = 0 then zD186_15 a1 2 m5 else zD186_15 a1 0 m5
theorem zD186_28_ok {μ0 : xe_Mem} {δ : xe_Dy} {d : Nat} (hd : 4 ≤ d)  : ∀ (l0 : Option Value) (l1 : Option Value) (l2 : Option Value) (μ : xe_Mem), zT zPr μ0 μ → zK zPr μ0 δ d 186 28 [l0, l1, l2] [] μ (zD186_28  μ) := by
  intro l0 l1 l2 μ hT
  unfold zD186_28
  exact zK_ret0 rfl hT
theorem zD186_18_bok {μ0 : xe_Mem} {δ : xe_Dy} {d : Nat} (hd : 4 ≤ d)  {c18 : Int32 → Int32 → xe_Mem → zO} (hc18 : ∀ (v1 : Int32) (v2 : Int32) (μ : xe_Mem), zT zPr μ0 μ → zK zPr μ0 δ d 186 18 [some (.ref 203), some (.int v1), some (.int v2)] [] μ (c18 v1 v2 μ)) : ∀ (v1 : Int32) (v2 : Int32) (μ : xe_Mem), zT zPr μ0 μ → zK zPr μ0 δ d 186 18 [some (.ref 203), some (.int v1), some (.int v2)] [] μ (zD186_18_b  c18 v1 v2 μ) := by
  intro v1 v2 μ hT
  unfold zD186_18_b
  refine zK_op rfl rfl ?_
  refine zK_op rfl rfl ?_
  refine zK_icge rfl (fun _ => ?_) (fun _ => ?_)
  · exact zD186_28_ok hd _ _ _ μ hT
  refine zK_op rfl rfl ?_
  refine zK_gI rfl rfl hT ?_
  refine zK_ifne rfl (fun _ => ?_) (fun _ => ?_)
  · refine zK_op rfl rfl ?_
    refine zK_cV rfl (as := [.ref 203]) (rest := []) rfl rfl (xe_rcvO (zT_sh hT rfl)) (Nat.le_of_ble_eq_true rfl) (Nat.le_of_ble_eq_true rfl) (by decide) (fun _ => rfl) (by omega) (zD187_ok (by omega) μ hT) (fun m3 T4 => ?_)
    refine zK_op rfl rfl ?_
    refine zK_op rfl rfl ?_
    exact hc18 v1 (v2 + (1)) m3 T4
  exact zD186_28_ok hd _ _ _ μ hT
theorem zD186_18_ok {μ0 : xe_Mem} {δ : xe_Dy} {d : Nat} (hd : 4 ≤ d)  : ∀ n : Nat, ∀ (v1 : Int32) (v2 : Int32) (μ : xe_Mem), zT zPr μ0 μ → zK zPr μ0 δ d 186 18 [some (.ref 203), some (.int v1), some (.int v2)] [] μ (zD186_18  n v1 v2 μ) := by
  intro n
  induction n with
  | zero => exact fun _ _ _ _  => fun o μ' h => by cases h
  | succ n ih => exact zD186_18_bok hd   ih
theorem zD186_15_ok {μ0 : xe_Mem} {δ : xe_Dy} {d : Nat} (hd : 4 ≤ d)  : ∀ (v1 : Int32) (s1 : Int32) (μ : xe_Mem), zT zPr μ0 μ → zK zPr μ0 δ d 186 15 [some (.ref 203), some (.int v1), none] [.int s1, .ref 203] μ (zD186_15  v1 s1 μ) := by
  intro v1 s1 μ hT
  unfold zD186_15
  refine zK_pI rfl rfl hT rfl (fun m1 T2 => ?_)
  refine zK_op rfl rfl ?_
  refine zK_op rfl rfl ?_
  exact zD186_18_ok hd zfu v1 0 m1 T2
theorem zD186_ok {μ0 : xe_Mem} {δ : xe_Dy} {d : Nat} (hd : 4 ≤ d) (a1 : Int32) (μ : xe_Mem) (hT : zT zPr μ0 μ) : zK zPr μ0 δ d 186 0 (xe_init [.ref 203, .int a1] (xM_L 186)) [] μ (zD186 a1 μ) := by
  unfold zD186
  show zK zPr μ0 δ d 186 0 [some (.ref 203), some (.int a1), none] [] μ _
  refine zK_op rfl rfl ?_
  refine zK_op rfl rfl ?_
  refine zK_gI rfl rfl hT ?_
  refine zK_ifne rfl (fun _ => ?_) (fun _ => ?_)
  · refine zK_op rfl rfl ?_
    refine zK_op rfl rfl ?_
    exact zD186_15_ok hd a1 1 μ hT
  refine zK_op rfl rfl ?_
  refine zK_op rfl rfl ?_
  refine zK_op rfl rfl ?_
  refine zK_op rfl rfl ?_
  refine zK_cI rfl (as := [.long a1.toInt64, .long 1, .long 200]) (rest := [.ref 203]) rfl rfl rfl (Nat.le_of_ble_eq_true rfl) (Nat.le_of_ble_eq_true rfl) (by decide) (fun _ => rfl) (by omega) (zD132_ok (by omega) a1.toInt64 1 200 μ hT) (fun x7 m5 T6 => ?_)
  refine zK_ifne rfl (fun _ => ?_) (fun _ => ?_)
  · refine zK_op rfl rfl ?_
    refine zK_op rfl rfl ?_
    exact zD186_15_ok hd a1 2 m5 T6
  refine zK_op rfl rfl ?_
  exact zD186_15_ok hd a1 0 m5 T6
/-! 194 LogicalTimesModel.port(II)I -/
def zD194_39 (s0 : Int32) (μ : xe_Mem) : zO := some (.inl (some (.int s0)), μ)
def zD194_25 (v1 : Int32) (v2 : Int32) (s1 : Int32) (μ : xe_Mem) : zO := zq_m (xe_setI μ 203 0 s1) fun m1 => if (xe_I m1 203 0) ≤ 0 then zq_x ((12 * v1) + v2) 48 fun j3 => zD194_39 (xe_I m1 256 j3) m1 else zD194_39 0 m1
def zD194_22 (v1 : Int32) (v2 : Int32) (μ : xe_Mem) : zO := zD194_25 v1 v2 2 μ
def zD194  (a1 : Int32) (a2 : Int32) (μ : xe_Mem) : zO := if (xe_I μ 203 70) = 0 then zD194_25 a1 a2 1 μ else zq_cI (zD132 a1.toInt64 0 3 μ) fun x9 m7 => if x9 = 0 then zD194_22 a1 a2 m7 else zq_cI (zD132 a2.toInt64 0 (((xe_I m7 203 12) - 1).toInt64) m7) fun x12 m10 => if x12 = 0 then zD194_22 a1 a2 m10 else zD194_25 a1 a2 0 m10
theorem zD194_39_ok {μ0 : xe_Mem} {δ : xe_Dy} {d : Nat} (hd : 1 ≤ d)  : ∀ (s0 : Int32) (l0 : Option Value) (l1 : Option Value) (l2 : Option Value) (μ : xe_Mem), zT zPr μ0 μ → zK zPr μ0 δ d 194 39 [l0, l1, l2] [.int s0] μ (zD194_39  s0 μ) := by
  intro s0 l0 l1 l2 μ hT
  unfold zD194_39
  exact zK_ret1 rfl hT
theorem zD194_25_ok {μ0 : xe_Mem} {δ : xe_Dy} {d : Nat} (hd : 1 ≤ d)  : ∀ (v1 : Int32) (v2 : Int32) (s1 : Int32) (μ : xe_Mem), zT zPr μ0 μ → zK zPr μ0 δ d 194 25 [some (.ref 203), some (.int v1), some (.int v2)] [.int s1, .ref 203] μ (zD194_25  v1 v2 s1 μ) := by
  intro v1 v2 s1 μ hT
  unfold zD194_25
  refine zK_pI rfl rfl hT rfl (fun m1 T2 => ?_)
  refine zK_op rfl rfl ?_
  refine zK_gI rfl rfl T2 ?_
  refine zK_ifle rfl (fun _ => ?_) (fun _ => ?_)
  · refine zK_op rfl rfl ?_
    refine zK_gRl (b := 256) rfl rfl rfl T2 ?_
    refine zK_op rfl rfl ?_
    refine zK_op rfl rfl ?_
    refine zK_op rfl rfl ?_
    refine zK_op rfl rfl ?_
    refine zK_op rfl rfl ?_
    refine zK_x (fun j3 h4 h5 h6 => ?_)
    refine zK_aI rfl rfl T2 h4 h5 h6 ?_
    exact zD194_39_ok hd (xe_I m1 256 j3) _ _ _ m1 T2
  refine zK_op rfl rfl ?_
  refine zK_op rfl rfl ?_
  exact zD194_39_ok hd 0 _ _ _ m1 T2
theorem zD194_22_ok {μ0 : xe_Mem} {δ : xe_Dy} {d : Nat} (hd : 1 ≤ d)  : ∀ (v1 : Int32) (v2 : Int32) (μ : xe_Mem), zT zPr μ0 μ → zK zPr μ0 δ d 194 22 [some (.ref 203), some (.int v1), some (.int v2)] [.ref 203] μ (zD194_22  v1 v2 μ) := by
  intro v1 v2 μ hT
  unfold zD194_22
  refine zK_op rfl rfl ?_
  refine zK_op rfl rfl ?_
  exact zD194_25_ok hd v1 v2 2 μ hT
theorem zD194_ok {μ0 : xe_Mem} {δ : xe_Dy} {d : Nat} (hd : 1 ≤ d) (a1 : Int32) (a2 : Int32) (μ : xe_Mem) (hT : zT zPr μ0 μ) : zK zPr μ0 δ d 194 0 (xe_init [.ref 203, .int a1, .int a2] (xM_L 194)) [] μ (zD194 a1 a2 μ) := by
  unfold zD194
  show zK zPr μ0 δ d 194 0 [some (.ref 203), some (.int a1), some (.int a2)] [] μ _
  refine zK_op rfl rfl ?_
  refine zK_op rfl rfl ?_
  refine zK_gI rfl rfl hT ?_
  refine zK_ifne rfl (fun _ => ?_) (fun _ => ?_)
  · refine zK_op rfl rfl ?_
    refine zK_op rfl rfl ?_
    exact zD194_25_ok hd a1 a2 1 μ hT
  refine zK_op rfl rfl ?_
  refine zK_op rfl rfl ?_
  refine zK_op rfl rfl ?_
  refine zK_op rfl rfl ?_
  refine zK_cI rfl (as := [.long a1.toInt64, .long 0, .long 3]) (rest := [.ref 203]) rfl rfl rfl (Nat.le_of_ble_eq_true rfl) (Nat.le_of_ble_eq_true rfl) (by decide) (fun _ => rfl) (by omega) (zD132_ok (by omega) a1.toInt64 0 3 μ hT) (fun x9 m7 T8 => ?_)
  refine zK_ifeq rfl (fun _ => ?_) (fun _ => ?_)
  · exact zD194_22_ok hd a1 a2 m7 T8
  refine zK_op rfl rfl ?_
  refine zK_op rfl rfl ?_
  refine zK_op rfl rfl ?_
  refine zK_op rfl rfl ?_
  refine zK_gI rfl rfl T8 ?_
  refine zK_op rfl rfl ?_
  refine zK_op rfl rfl ?_
  refine zK_op rfl rfl ?_
  refine zK_cI rfl (as := [.long a2.toInt64, .long 0, .long (((xe_I m7 203 12) - 1).toInt64)]) (rest := [.ref 203]) rfl rfl rfl (Nat.le_of_ble_eq_true rfl) (Nat.le_of_ble_eq_true rfl) (by decide) (fun _ => rfl) (by omega) (zD132_ok (by omega) a2.toInt64 0 (((xe_I m7 203 12) - 1).toInt64) m7 T8) (fun x12 m10 T11 => ?_)
  refine zK_ifne rfl (fun _ => ?_) (fun _ => ?_)
  · exact zD194_22_ok hd a1 a2 m10 T11
  refine zK_op rfl rfl ?_
  exact zD194_25_ok hd a1 a2 0 m10 T11
/-! 195 LogicalTimesModel.denoted(I)I -/
def zD195_29 (s0 : Int32) (μ : xe_Mem) : zO := some (.inl (some (.int s0)), μ)
def zD195_19 (v1 : Int32) (s1 : Int32) (μ : xe_Mem) : zO := zq_m (xe_setI μ 203 0 s1) fun m1 => if (xe_I m1 203 0) ≤ 0 then zq_x v1 12 fun j3 => zD195_29 (xe_I m1 255 j3) m1 else zD195_29 0 m1
def zD195  (a1 : Int32) (μ : xe_Mem) : zO := if (xe_I μ 203 70) = 0 then zD195_19 a1 1 μ else zq_cI (zD132 a1.toInt64 0 (((xe_I μ 203 12) - 1).toInt64) μ) fun x9 m7 => if x9 = 0 then zD195_19 a1 2 m7 else zD195_19 a1 0 m7
theorem zD195_29_ok {μ0 : xe_Mem} {δ : xe_Dy} {d : Nat} (hd : 1 ≤ d)  : ∀ (s0 : Int32) (l0 : Option Value) (l1 : Option Value) (μ : xe_Mem), zT zPr μ0 μ → zK zPr μ0 δ d 195 29 [l0, l1] [.int s0] μ (zD195_29  s0 μ) := by
  intro s0 l0 l1 μ hT
  unfold zD195_29
  exact zK_ret1 rfl hT
theorem zD195_19_ok {μ0 : xe_Mem} {δ : xe_Dy} {d : Nat} (hd : 1 ≤ d)  : ∀ (v1 : Int32) (s1 : Int32) (μ : xe_Mem), zT zPr μ0 μ → zK zPr μ0 δ d 195 19 [some (.ref 203), some (.int v1)] [.int s1, .ref 203] μ (zD195_19  v1 s1 μ) := by
  intro v1 s1 μ hT
  unfold zD195_19
  refine zK_pI rfl rfl hT rfl (fun m1 T2 => ?_)
  refine zK_op rfl rfl ?_
  refine zK_gI rfl rfl T2 ?_
  refine zK_ifle rfl (fun _ => ?_) (fun _ => ?_)
  · refine zK_op rfl rfl ?_
    refine zK_gRl (b := 255) rfl rfl rfl T2 ?_
    refine zK_op rfl rfl ?_
    refine zK_x (fun j3 h4 h5 h6 => ?_)
    refine zK_aI rfl rfl T2 h4 h5 h6 ?_
    exact zD195_29_ok hd (xe_I m1 255 j3) _ _ m1 T2
  refine zK_op rfl rfl ?_
  refine zK_op rfl rfl ?_
  exact zD195_29_ok hd 0 _ _ m1 T2
theorem zD195_ok {μ0 : xe_Mem} {δ : xe_Dy} {d : Nat} (hd : 1 ≤ d) (a1 : Int32) (μ : xe_Mem) (hT : zT zPr μ0 μ) : zK zPr μ0 δ d 195 0 (xe_init [.ref 203, .int a1] (xM_L 195)) [] μ (zD195 a1 μ) := by
  unfold zD195
  show zK zPr μ0 δ d 195 0 [some (.ref 203), some (.int a1)] [] μ _
  refine zK_op rfl rfl ?_
  refine zK_op rfl rfl ?_
  refine zK_gI rfl rfl hT ?_
  refine zK_ifne rfl (fun _ => ?_) (fun _ => ?_)
  · refine zK_op rfl rfl ?_
    refine zK_op rfl rfl ?_
    exact zD195_19_ok hd a1 1 μ hT
  refine zK_op rfl rfl ?_
  refine zK_op rfl rfl ?_
  refine zK_op rfl rfl ?_
  refine zK_op rfl rfl ?_
  refine zK_gI rfl rfl hT ?_
  refine zK_op rfl rfl ?_
  refine zK_op rfl rfl ?_
  refine zK_op rfl rfl ?_
  refine zK_cI rfl (as := [.long a1.toInt64, .long 0, .long (((xe_I μ 203 12) - 1).toInt64)]) (rest := [.ref 203]) rfl rfl rfl (Nat.le_of_ble_eq_true rfl) (Nat.le_of_ble_eq_true rfl) (by decide) (fun _ => rfl) (by omega) (zD132_ok (by omega) a1.toInt64 0 (((xe_I μ 203 12) - 1).toInt64) μ hT) (fun x9 m7 T8 => ?_)
  refine zK_ifne rfl (fun _ => ?_) (fun _ => ?_)
  · refine zK_op rfl rfl ?_
    refine zK_op rfl rfl ?_
    exact zD195_19_ok hd a1 2 m7 T8
  refine zK_op rfl rfl ?_
  exact zD195_19_ok hd a1 0 m7 T8
/-! 196 LogicalTimesModel.state(I)I -/
def zD196_15 (v1 : Int32) (s1 : Int32) (μ : xe_Mem) : zO := zq_m (xe_setI μ 203 0 s1) fun m1 => if (xe_I m1 203 0) ≤ 0 then if v1 = 0 then some (.inl (some (.int (xe_I m1 203 71))), m1) else if v1 = 1 then some (.inl (some (.int (xe_I m1 203 72))), m1) else if v1 = 2 then some (.inl (some (.int (xe_I m1 203 73))), m1) else if v1 = 3 then some (.inl (some (.int (xe_I m1 203 74))), m1) else if v1 = 4 then some (.inl (some (.int (xe_I m1 203 75))), m1) else if v1 = 5 then some (.inl (some (.int (xe_I m1 203 76))), m1) else some (.inl (some (.int (xe_I m1 203 77))), m1) else some (.inl (some (.int 0)), m1)
def zD196  (a1 : Int32) (μ : xe_Mem) : zO := if (xe_I μ 203 70) = 0 then zD196_15 a1 1 μ else zq_cI (zD132 a1.toInt64 0 6 μ) fun x11 m9 => if x11 = 0 then zD196_15 a1 2 m9 else zD196_15 a1 0 m9
theorem zD196_15_ok {μ0 : xe_Mem} {δ : xe_Dy} {d : Nat} (hd : 1 ≤ d)  : ∀ (v1 : Int32) (s1 : Int32) (μ : xe_Mem), zT zPr μ0 μ → zK zPr μ0 δ d 196 15 [some (.ref 203), some (.int v1)] [.int s1, .ref 203] μ (zD196_15  v1 s1 μ) := by
  intro v1 s1 μ hT
  unfold zD196_15
  refine zK_pI rfl rfl hT rfl (fun m1 T2 => ?_)
  refine zK_op rfl rfl ?_
  refine zK_gI rfl rfl T2 ?_
  refine zK_ifle rfl (fun _ => ?_) (fun _ => ?_)
  · refine zK_op rfl rfl ?_
    refine zK_ite (fun h3 => ?_) (fun h3 => ?_)
    · rw [h3]
      refine zK_op (k' := 23) rfl (by rfl) ?_
      refine zK_op rfl rfl ?_
      refine zK_gI rfl rfl T2 ?_
      exact zK_ret1 rfl T2
    refine zK_ite (fun h4 => ?_) (fun h4 => ?_)
    · rw [h4]
      refine zK_op (k' := 26) rfl (by rfl) ?_
      refine zK_op rfl rfl ?_
      refine zK_gI rfl rfl T2 ?_
      exact zK_ret1 rfl T2
    refine zK_ite (fun h5 => ?_) (fun h5 => ?_)
    · rw [h5]
      refine zK_op (k' := 29) rfl (by rfl) ?_
      refine zK_op rfl rfl ?_
      refine zK_gI rfl rfl T2 ?_
      exact zK_ret1 rfl T2
    refine zK_ite (fun h6 => ?_) (fun h6 => ?_)
    · rw [h6]
      refine zK_op (k' := 32) rfl (by rfl) ?_
      refine zK_op rfl rfl ?_
      refine zK_gI rfl rfl T2 ?_
      exact zK_ret1 rfl T2
    refine zK_ite (fun h7 => ?_) (fun h7 => ?_)
    · rw [h7]
      refine zK_op (k' := 35) rfl (by rfl) ?_
      refine zK_op rfl rfl ?_
      refine zK_gI rfl rfl T2 ?_
      exact zK_ret1 rfl T2
    refine zK_ite (fun h8 => ?_) (fun h8 => ?_)
    · rw [h8]
      refine zK_op (k' := 38) rfl (by rfl) ?_
      refine zK_op rfl rfl ?_
      refine zK_gI rfl rfl T2 ?_
      exact zK_ret1 rfl T2
    refine zK_tswD rfl (by have a0 := zt_ne (0) (v := 0) (by decide) h3; have a1 := zt_ne (1) (v := 1) (by decide) h4; have a2 := zt_ne (2) (v := 2) (by decide) h5; have a3 := zt_ne (3) (v := 3) (by decide) h6; have a4 := zt_ne (4) (v := 4) (by decide) h7; have a5 := zt_ne (5) (v := 5) (by decide) h8; simp only [List.length_cons, List.length_nil]; omega) ?_
    refine zK_op rfl rfl ?_
    refine zK_gI rfl rfl T2 ?_
    exact zK_ret1 rfl T2
  refine zK_op rfl rfl ?_
  exact zK_ret1 rfl T2
theorem zD196_ok {μ0 : xe_Mem} {δ : xe_Dy} {d : Nat} (hd : 1 ≤ d) (a1 : Int32) (μ : xe_Mem) (hT : zT zPr μ0 μ) : zK zPr μ0 δ d 196 0 (xe_init [.ref 203, .int a1] (xM_L 196)) [] μ (zD196 a1 μ) := by
  unfold zD196
  show zK zPr μ0 δ d 196 0 [some (.ref 203), some (.int a1)] [] μ _
  refine zK_op rfl rfl ?_
  refine zK_op rfl rfl ?_
  refine zK_gI rfl rfl hT ?_
  refine zK_ifne rfl (fun _ => ?_) (fun _ => ?_)
  · refine zK_op rfl rfl ?_
    refine zK_op rfl rfl ?_
    exact zD196_15_ok hd a1 1 μ hT
  refine zK_op rfl rfl ?_
  refine zK_op rfl rfl ?_
  refine zK_op rfl rfl ?_
  refine zK_op rfl rfl ?_
  refine zK_cI rfl (as := [.long a1.toInt64, .long 0, .long 6]) (rest := [.ref 203]) rfl rfl rfl (Nat.le_of_ble_eq_true rfl) (Nat.le_of_ble_eq_true rfl) (by decide) (fun _ => rfl) (by omega) (zD132_ok (by omega) a1.toInt64 0 6 μ hT) (fun x11 m9 T10 => ?_)
  refine zK_ifne rfl (fun _ => ?_) (fun _ => ?_)
  · refine zK_op rfl rfl ?_
    refine zK_op rfl rfl ?_
    exact zD196_15_ok hd a1 2 m9 T10
  refine zK_op rfl rfl ?_
  exact zD196_15_ok hd a1 0 m9 T10
/-! 197 LogicalTimesModel.running(I)I -/
def zD197_25 (s0 : Int32) (μ : xe_Mem) : zO := some (.inl (some (.int s0)), μ)
def zD197_15 (v1 : Int32) (s1 : Int32) (μ : xe_Mem) : zO := zq_m (xe_setI μ 203 0 s1) fun m1 => if (xe_I m1 203 0) ≤ 0 then zq_x v1 4 fun j3 => zD197_25 (xe_I m1 258 j3) m1 else zD197_25 0 m1
def zD197  (a1 : Int32) (μ : xe_Mem) : zO := if (xe_I μ 203 70) = 0 then zD197_15 a1 1 μ else zq_cI (zD132 a1.toInt64 0 3 μ) fun x9 m7 => if x9 = 0 then zD197_15 a1 2 m7 else zD197_15 a1 0 m7
theorem zD197_25_ok {μ0 : xe_Mem} {δ : xe_Dy} {d : Nat} (hd : 1 ≤ d)  : ∀ (s0 : Int32) (l0 : Option Value) (l1 : Option Value) (μ : xe_Mem), zT zPr μ0 μ → zK zPr μ0 δ d 197 25 [l0, l1] [.int s0] μ (zD197_25  s0 μ) := by
  intro s0 l0 l1 μ hT
  unfold zD197_25
  exact zK_ret1 rfl hT
theorem zD197_15_ok {μ0 : xe_Mem} {δ : xe_Dy} {d : Nat} (hd : 1 ≤ d)  : ∀ (v1 : Int32) (s1 : Int32) (μ : xe_Mem), zT zPr μ0 μ → zK zPr μ0 δ d 197 15 [some (.ref 203), some (.int v1)] [.int s1, .ref 203] μ (zD197_15  v1 s1 μ) := by
  intro v1 s1 μ hT
  unfold zD197_15
  refine zK_pI rfl rfl hT rfl (fun m1 T2 => ?_)
  refine zK_op rfl rfl ?_
  refine zK_gI rfl rfl T2 ?_
  refine zK_ifle rfl (fun _ => ?_) (fun _ => ?_)
  · refine zK_op rfl rfl ?_
    refine zK_gRl (b := 258) rfl rfl rfl T2 ?_
    refine zK_op rfl rfl ?_
    refine zK_x (fun j3 h4 h5 h6 => ?_)
    refine zK_aI rfl rfl T2 h4 h5 h6 ?_
    exact zD197_25_ok hd (xe_I m1 258 j3) _ _ m1 T2
  refine zK_op rfl rfl ?_
  refine zK_op rfl rfl ?_
  exact zD197_25_ok hd 0 _ _ m1 T2
theorem zD197_ok {μ0 : xe_Mem} {δ : xe_Dy} {d : Nat} (hd : 1 ≤ d) (a1 : Int32) (μ : xe_Mem) (hT : zT zPr μ0 μ) : zK zPr μ0 δ d 197 0 (xe_init [.ref 203, .int a1] (xM_L 197)) [] μ (zD197 a1 μ) := by
  unfold zD197
  show zK zPr μ0 δ d 197 0 [some (.ref 203), some (.int a1)] [] μ _
  refine zK_op rfl rfl ?_
  refine zK_op rfl rfl ?_
  refine zK_gI rfl rfl hT ?_
  refine zK_ifne rfl (fun _ => ?_) (fun _ => ?_)
  · refine zK_op rfl rfl ?_
    refine zK_op rfl rfl ?_
    exact zD197_15_ok hd a1 1 μ hT
  refine zK_op rfl rfl ?_
  refine zK_op rfl rfl ?_
  refine zK_op rfl rfl ?_
  refine zK_op rfl rfl ?_
  refine zK_cI rfl (as := [.long a1.toInt64, .long 0, .long 3]) (rest := [.ref 203]) rfl rfl rfl (Nat.le_of_ble_eq_true rfl) (Nat.le_of_ble_eq_true rfl) (by decide) (fun _ => rfl) (by omega) (zD132_ok (by omega) a1.toInt64 0 3 μ hT) (fun x9 m7 T8 => ?_)
  refine zK_ifne rfl (fun _ => ?_) (fun _ => ?_)
  · refine zK_op rfl rfl ?_
    refine zK_op rfl rfl ?_
    exact zD197_15_ok hd a1 2 m7 T8
  refine zK_op rfl rfl ?_
  exact zD197_15_ok hd a1 0 m7 T8
