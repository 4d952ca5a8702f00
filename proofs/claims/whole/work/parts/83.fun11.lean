/-! methods as functions (by wip/whole/gen/dec.py) -/
/-! 159 LogicalTimesModel.statement(II)Z -/
def zD159_19 (μ : xe_Mem) : zO := zq_cI (zD150 μ) fun x3 m1 => zq_z x3 <| some (.inl (some (.int x3)), m1)
def zD159_22 (v1 : Int32) (v2 : Int32) (μ : xe_Mem) : zO := zq_m (xe_setI μ 203 52 ((xe_I μ 203 52) + 1)) fun m14 => zq_cI (zD141 5 m14) fun x18 m16 => if x18 = 0 then zq_cI (zD141 7 m16) fun x21 m19 => if x21 = 0 then zq_cI (zD166 v1 v2 m19) fun x24 m22 => zq_z x24 <| some (.inl (some (.int x24)), m22) else zq_m (xe_setI m19 203 10 ((xe_I m19 203 10) + 1)) fun m25 => zq_cI (zD148 1 9 m25) fun x29 m27 => if x29 = 0 then some (.inl (some (.int 0)), m27) else zq_cI (zD149 m27) fun x32 m30 => zq_cV (zD157 11 x32 m30) fun m33 => zq_cI (zD149 m33) fun x37 m35 => zq_x (xe_I m33 203 53) 8 fun j38 => zq_m (xe_setI m35 247 j38 x37) fun m42 => zq_x (xe_I m42 203 53) 8 fun j44 => zq_m (xe_setI m42 244 j44 (xe_I m42 203 47)) fun m48 => zq_cI (zD158 3 m48) fun x52 m50 => zq_z x52 <| some (.inl (some (.int x52)), m50) else zq_m (xe_setI m16 203 10 ((xe_I m16 203 10) + 1)) fun m53 => zq_cI (zD160 v1 m53) fun x57 m55 => if x57 = 0 then some (.inl (some (.int 0)), m55) else zq_cV (zD157 9 0 m55) fun m58 => zq_x (xe_I m58 203 53) 8 fun j60 => zq_m (xe_setI m58 244 j60 ((xe_I m58 203 47) - 1)) fun m64 => zq_cI (zD158 1 m64) fun x68 m66 => zq_z x68 <| some (.inl (some (.int x68)), m66)
def zD159  (a1 : Int32) (a2 : Int32) (μ : xe_Mem) : zO := if (xe_I μ 203 52) = 150 then zD159_19 μ else zq_cI (zD141 5 μ) fun x6 m4 => if x6 = 0 then zq_cI (zD141 7 m4) fun x9 m7 => if x9 = 0 then zq_x (xe_I m7 203 10) 3002 fun j10 => if (xe_I m7 207 j10) = 1 then zD159_22 a1 a2 m7 else zD159_19 m7 else zD159_22 a1 a2 m7 else zD159_22 a1 a2 m4
theorem zD159_19_ok {μ0 : xe_Mem} {δ : xe_Dy} {d : Nat} (hd : 5 ≤ d)  : ∀ (l1 : Option Value) (l2 : Option Value) (μ : xe_Mem), zT zPr μ0 μ → zK zPr μ0 δ d 159 19 [some (.ref 203), l1, l2] [] μ (zD159_19  μ) := by
  intro l1 l2 μ hT
  unfold zD159_19
  refine zK_op rfl rfl ?_
  refine zK_cI rfl (as := [.ref 203]) (rest := []) rfl rfl (xe_rcvO (zT_sh hT rfl)) (Nat.le_of_ble_eq_true rfl) (Nat.le_of_ble_eq_true rfl) (by decide) (fun _ => rfl) (by omega) (zD150_ok (by omega) μ hT) (fun x3 m1 T2 => ?_)
  exact zK_ret3z rfl T2
theorem zD159_22_ok {μ0 : xe_Mem} {δ : xe_Dy} {d : Nat} (hd : 5 ≤ d)  : ∀ (v1 : Int32) (v2 : Int32) (μ : xe_Mem), zT zPr μ0 μ → zK zPr μ0 δ d 159 22 [some (.ref 203), some (.int v1), some (.int v2)] [] μ (zD159_22  v1 v2 μ) := by
  intro v1 v2 μ hT
  unfold zD159_22
  refine zK_op rfl rfl ?_
  refine zK_op rfl rfl ?_
  refine zK_gI rfl rfl hT ?_
  refine zK_op rfl rfl ?_
  refine zK_op rfl rfl ?_
  refine zK_pI rfl rfl hT rfl (fun m14 T15 => ?_)
  refine zK_op rfl rfl ?_
  refine zK_op rfl rfl ?_
  refine zK_cI rfl (as := [.ref 203, .int 5]) (rest := []) rfl rfl (xe_rcvO (zT_sh T15 rfl)) (Nat.le_of_ble_eq_true rfl) (Nat.le_of_ble_eq_true rfl) (by decide) (fun _ => rfl) (by omega) (zD141_ok (by omega) 5 m14 T15) (fun x18 m16 T17 => ?_)
  refine zK_ifeq rfl (fun _ => ?_) (fun _ => ?_)
  · refine zK_op rfl rfl ?_
    refine zK_op rfl rfl ?_
    refine zK_cI rfl (as := [.ref 203, .int 7]) (rest := []) rfl rfl (xe_rcvO (zT_sh T17 rfl)) (Nat.le_of_ble_eq_true rfl) (Nat.le_of_ble_eq_true rfl) (by decide) (fun _ => rfl) (by omega) (zD141_ok (by omega) 7 m16 T17) (fun x21 m19 T20 => ?_)
    refine zK_ifeq rfl (fun _ => ?_) (fun _ => ?_)
    · refine zK_op rfl rfl ?_
      refine zK_op rfl rfl ?_
      refine zK_op rfl rfl ?_
      refine zK_cI rfl (as := [.ref 203, .int v1, .int v2]) (rest := []) rfl rfl (xe_rcvO (zT_sh T20 rfl)) (Nat.le_of_ble_eq_true rfl) (Nat.le_of_ble_eq_true rfl) (by decide) (fun _ => rfl) (by omega) (zD166_ok (by omega) v1 v2 m19 T20) (fun x24 m22 T23 => ?_)
      exact zK_ret3z rfl T23
    refine zK_op rfl rfl ?_
    refine zK_op rfl rfl ?_
    refine zK_gI rfl rfl T20 ?_
    refine zK_op rfl rfl ?_
    refine zK_op rfl rfl ?_
    refine zK_pI rfl rfl T20 rfl (fun m25 T26 => ?_)
    refine zK_op rfl rfl ?_
    refine zK_op rfl rfl ?_
    refine zK_op rfl rfl ?_
    refine zK_cI rfl (as := [.ref 203, .long 1, .long 9]) (rest := []) rfl rfl (xe_rcvO (zT_sh T26 rfl)) (Nat.le_of_ble_eq_true rfl) (Nat.le_of_ble_eq_true rfl) (by decide) (fun _ => rfl) (by omega) (zD148_ok (by omega) 1 9 m25 T26) (fun x29 m27 T28 => ?_)
    refine zK_ifne rfl (fun _ => ?_) (fun _ => ?_)
    · refine zK_op rfl rfl ?_
      exact zK_ret3 rfl (Or.inl rfl) T28
    refine zK_op rfl rfl ?_
    refine zK_op rfl rfl ?_
    refine zK_op rfl rfl ?_
    refine zK_cI rfl (as := [.ref 203]) (rest := [.int 11, .ref 203]) rfl rfl (xe_rcvO (zT_sh T28 rfl)) (Nat.le_of_ble_eq_true rfl) (Nat.le_of_ble_eq_true rfl) (by decide) (fun _ => rfl) (by omega) (zD149_ok (by omega) m27 T28) (fun x32 m30 T31 => ?_)
    refine zK_cV rfl (as := [.ref 203, .int 11, .int x32]) (rest := []) rfl rfl (xe_rcvO (zT_sh T31 rfl)) (Nat.le_of_ble_eq_true rfl) (Nat.le_of_ble_eq_true rfl) (by decide) (fun _ => rfl) (by omega) (zD157_ok (by omega) 11 x32 m30 T31) (fun m33 T34 => ?_)
    refine zK_op rfl rfl ?_
    refine zK_gRl (b := 247) rfl rfl rfl T34 ?_
    refine zK_op rfl rfl ?_
    refine zK_gI rfl rfl T34 ?_
    refine zK_op rfl rfl ?_
    refine zK_cI rfl (as := [.ref 203]) (rest := [.int (xe_I m33 203 53), .ref 247]) rfl rfl (xe_rcvO (zT_sh T34 rfl)) (Nat.le_of_ble_eq_true rfl) (Nat.le_of_ble_eq_true rfl) (by decide) (fun _ => rfl) (by omega) (zD149_ok (by omega) m33 T34) (fun x37 m35 T36 => ?_)
    refine zK_x (fun j38 h39 h40 h41 => ?_)
    refine zK_sI (a := 247) (g := (fun x => x)) rfl rfl T36 h39 h40 h41 rfl (fun m42 T43 => ?_)
    refine zK_op rfl rfl ?_
    refine zK_gRl (b := 244) rfl rfl rfl T43 ?_
    refine zK_op rfl rfl ?_
    refine zK_gI rfl rfl T43 ?_
    refine zK_op rfl rfl ?_
    refine zK_gI rfl rfl T43 ?_
    refine zK_x (fun j44 h45 h46 h47 => ?_)
    refine zK_sI (a := 244) (g := (fun x => x)) rfl rfl T43 h45 h46 h47 rfl (fun m48 T49 => ?_)
    refine zK_op rfl rfl ?_
    refine zK_op rfl rfl ?_
    refine zK_cI rfl (as := [.ref 203, .int 3]) (rest := []) rfl rfl (xe_rcvO (zT_sh T49 rfl)) (Nat.le_of_ble_eq_true rfl) (Nat.le_of_ble_eq_true rfl) (by decide) (fun _ => rfl) (by omega) (zD158_ok (by omega) 3 m48 T49) (fun x52 m50 T51 => ?_)
    exact zK_ret3z rfl T51
  refine zK_op rfl rfl ?_
  refine zK_op rfl rfl ?_
  refine zK_gI rfl rfl T17 ?_
  refine zK_op rfl rfl ?_
  refine zK_op rfl rfl ?_
  refine zK_pI rfl rfl T17 rfl (fun m53 T54 => ?_)
  refine zK_op rfl rfl ?_
  refine zK_op rfl rfl ?_
  refine zK_cI rfl (as := [.ref 203, .int v1]) (rest := []) rfl rfl (xe_rcvO (zT_sh T54 rfl)) (Nat.le_of_ble_eq_true rfl) (Nat.le_of_ble_eq_true rfl) (by decide) (fun _ => rfl) (by omega) (zD160_ok (by omega) v1 m53 T54) (fun x57 m55 T56 => ?_)
  refine zK_ifne rfl (fun _ => ?_) (fun _ => ?_)
  · refine zK_op rfl rfl ?_
    exact zK_ret3 rfl (Or.inl rfl) T56
  refine zK_op rfl rfl ?_
  refine zK_op rfl rfl ?_
  refine zK_op rfl rfl ?_
  refine zK_cV rfl (as := [.ref 203, .int 9, .int 0]) (rest := []) rfl rfl (xe_rcvO (zT_sh T56 rfl)) (Nat.le_of_ble_eq_true rfl) (Nat.le_of_ble_eq_true rfl) (by decide) (fun _ => rfl) (by omega) (zD157_ok (by omega) 9 0 m55 T56) (fun m58 T59 => ?_)
  refine zK_op rfl rfl ?_
  refine zK_gRl (b := 244) rfl rfl rfl T59 ?_
  refine zK_op rfl rfl ?_
  refine zK_gI rfl rfl T59 ?_
  refine zK_op rfl rfl ?_
  refine zK_gI rfl rfl T59 ?_
  refine zK_op rfl rfl ?_
  refine zK_op rfl rfl ?_
  refine zK_x (fun j60 h61 h62 h63 => ?_)
  refine zK_sI (a := 244) (g := (fun x => x)) rfl rfl T59 h61 h62 h63 rfl (fun m64 T65 => ?_)
  refine zK_op rfl rfl ?_
  refine zK_op rfl rfl ?_
  refine zK_cI rfl (as := [.ref 203, .int 1]) (rest := []) rfl rfl (xe_rcvO (zT_sh T65 rfl)) (Nat.le_of_ble_eq_true rfl) (Nat.le_of_ble_eq_true rfl) (by decide) (fun _ => rfl) (by omega) (zD158_ok (by omega) 1 m64 T65) (fun x68 m66 T67 => ?_)
  exact zK_ret3z rfl T67
theorem zD159_ok {μ0 : xe_Mem} {δ : xe_Dy} {d : Nat} (hd : 5 ≤ d) (a1 : Int32) (a2 : Int32) (μ : xe_Mem) (hT : zT zPr μ0 μ) : zK zPr μ0 δ d 159 0 (xe_init [.ref 203, .int a1, .int a2] (xM_L 159)) [] μ (zD159 a1 a2 μ) := by
  unfold zD159
  show zK zPr μ0 δ d 159 0 [some (.ref 203), some (.int a1), some (.int a2)] [] μ _
  refine zK_op rfl rfl ?_
  refine zK_gI rfl rfl hT ?_
  refine zK_op rfl rfl ?_
  refine zK_iceq rfl (fun _ => ?_) (fun _ => ?_)
  · exact zD159_19_ok hd _ _ μ hT
  refine zK_op rfl rfl ?_
  refine zK_op rfl rfl ?_
  refine zK_cI rfl (as := [.ref 203, .int 5]) (rest := []) rfl rfl (xe_rcvO (zT_sh hT rfl)) (Nat.le_of_ble_eq_true rfl) (Nat.le_of_ble_eq_true rfl) (by decide) (fun _ => rfl) (by omega) (zD141_ok (by omega) 5 μ hT) (fun x6 m4 T5 => ?_)
  refine zK_ifne rfl (fun _ => ?_) (fun _ => ?_)
  · refine zK_op rfl rfl ?_
    refine zK_op rfl rfl ?_
    refine zK_cI rfl (as := [.ref 203, .int 7]) (rest := []) rfl rfl (xe_rcvO (zT_sh T5 rfl)) (Nat.le_of_ble_eq_true rfl) (Nat.le_of_ble_eq_true rfl) (by decide) (fun _ => rfl) (by omega) (zD141_ok (by omega) 7 m4 T5) (fun x9 m7 T8 => ?_)
    refine zK_ifne rfl (fun _ => ?_) (fun _ => ?_)
    · refine zK_op rfl rfl ?_
      refine zK_gRl (b := 207) rfl rfl rfl T8 ?_
      refine zK_op rfl rfl ?_
      refine zK_gI rfl rfl T8 ?_
      refine zK_x (fun j10 h11 h12 h13 => ?_)
      refine zK_aI rfl rfl T8 h11 h12 h13 ?_
      refine zK_op rfl rfl ?_
      refine zK_iceq rfl (fun _ => ?_) (fun _ => ?_)
      · exact zD159_22_ok hd a1 a2 m7 T8
      exact zD159_19_ok hd _ _ m7 T8
    exact zD159_22_ok hd a1 a2 m7 T8
  exact zD159_22_ok hd a1 a2 m4 T5
/-! 153 LogicalTimesModel.readTask(I)Z -/
def zD153_118 (μ : xe_Mem) : zO := some (.inl (some (.int 0)), μ)
def zD153_213 (μ : xe_Mem) : zO := some (.inl (some (.int 0)), μ)
def zD153_196_b (c196 : Int32 → Int32 → xe_Mem → zO) (v1 : Int32) (v5 : Int32) (μ : xe_Mem) : zO := if (xe_I μ 203 53) ≤ 0 then zq_cV (zD157 13 0 μ) fun m97 => zq_m (xe_setI m97 203 22 ((xe_I m97 203 22) + 1)) fun m99 => some (.inl (some (.int 1)), m99) else zq_cI (zD147 125 μ) fun x103 m101 => if x103 = 0 then zq_cI (zD159 v5 v1 m101) fun x106 m104 => if x106 = 0 then zD153_213 m104 else c196 v1 v5 m104 else zq_cI (zD156 v5 m101) fun x109 m107 => if x109 = 0 then zD153_213 m107 else c196 v1 v5 m107
def zD153_196   : Nat → Int32 → Int32 → xe_Mem → zO
  | 0 => fun _ _ _  => none
  | n + 1 => zD153_196_b   (zD153_196   n)
def zD153_174_b (c174 : Int32 → Int32 → Int32 → xe_Mem → zO) (v1 : Int32) (v5 : Int32) (v6 : Int32) (μ : xe_Mem) : zO := if 6 ≤ v6 then zq_cI (zD146 123 μ) fun x92 m90 => if x92 = 0 then some (.inl (some (.int 0)), m90) else zq_m (xe_setI m90 203 53 0) fun m93 => zq_cV (zD155 0 m93) fun m95 => zD153_196 zfu v1 v5 m95 else zq_x v6 6 fun j110 => zq_m (xe_setI μ 242 j110 ((vp_nar .boolean) 0)) fun m114 => c174 v1 v5 (v6 + (1)) m114
def zD153_174   : Nat → Int32 → Int32 → Int32 → xe_Mem → zO
  | 0 => fun _ _ _ _  => none
  | n + 1 => zD153_174_b   (zD153_174   n)
def zD153_149_b (c149 : Int32 → Int32 → Int32 → xe_Mem → zO) (v1 : Int32) (v5 : Int32) (v6 : Int32) (μ : xe_Mem) : zO := if 12 ≤ v6 then zD153_174 zfu v1 v5 0 μ else zq_x ((12 * v5) + v6) 288 fun j116 => zq_m (xe_setI μ 226 j116 ((vp_nar .boolean) 0)) fun m120 => zq_x ((12 * v5) + v6) 288 fun j122 => zq_m (xe_setI m120 227 j122 ((vp_nar .boolean) 0)) fun m126 => c149 v1 v5 (v6 + (1)) m126
def zD153_149   : Nat → Int32 → Int32 → Int32 → xe_Mem → zO
  | 0 => fun _ _ _ _  => none
  | n + 1 => zD153_149_b   (zD153_149   n)
def zD153_86 (v1 : Int32) (v2 : Int64) (v5 : Int32) (s1 : Int32) (μ : xe_Mem) : zO := zq_cI (zD143 s1 μ) fun x26 m24 => if x26 = 0 then some (.inl (some (.int 0)), m24) else zq_cI (zD149 m24) fun x29 m27 => zq_x v5 24 fun j30 => zq_m (xe_setI m27 220 j30 x29) fun m34 => zq_x v1 4 fun j36 => zq_x v5 24 fun j40 => zq_d (xe_I m34 220 j40) <| zq_x v5 24 fun j45 => zq_m (xe_setI m34 221 j45 ((xe_I m34 214 j36) / (xe_I m34 220 j40))) fun m49 => zq_cI (zD154 4 m49) fun x53 m51 => if x53 = 0 then zD153_118 m51 else zq_cI (zD148 0 3 m51) fun x56 m54 => if x56 = 0 then zD153_118 m54 else zq_x v5 24 fun j57 => zq_m (xe_setL m54 217 j57 v2) fun m61 => zq_x v5 24 fun j63 => zq_m (xe_setI m61 218 j63 v1) fun m67 => zq_cI (zD149 m67) fun x71 m69 => zq_x v5 24 fun j72 => zq_m (xe_setI m69 219 j72 x71) fun m76 => zq_x v5 24 fun j78 => zq_m (xe_setI m76 223 j78 0) fun m82 => zq_x v5 24 fun j84 => zq_m (xe_setI m82 224 j84 (xe_I m82 203 47)) fun m88 => zD153_149 zfu v1 v5 0 m88
def zD153_85 (v1 : Int32) (v2 : Int64) (v5 : Int32) (μ : xe_Mem) : zO := zD153_86 v1 v2 v5 0 μ
def zD153_41 (c25 : Int32 → Int64 → Int32 → Int32 → xe_Mem → zO) (v1 : Int32) (v2 : Int64) (v5 : Int32) (s0 : Int32) (μ : xe_Mem) : zO := c25 v1 v2 s0 (v5 + (1)) μ
def zD153_40 (c25 : Int32 → Int64 → Int32 → Int32 → xe_Mem → zO) (v1 : Int32) (v2 : Int64) (v5 : Int32) (μ : xe_Mem) : zO := zD153_41 c25 v1 v2 v5 0 μ
def zD153_25_b (c25 : Int32 → Int64 → Int32 → Int32 → xe_Mem → zO) (v1 : Int32) (v2 : Int64) (v4 : Int32) (v5 : Int32) (μ : xe_Mem) : zO := if (xe_I μ 203 22) ≤ v5 then zq_cI (zD143 v4 μ) fun x14 m12 => if x14 = 0 then some (.inl (some (.int 0)), m12) else zq_vI (xe_I m12 203 22) fun x15 => zq_x (xe_I m12 203 10) 3002 fun j16 => if (xe_I m12 207 j16) = 2 then zq_x (xe_I m12 203 10) 3002 fun j20 => if (lg_cmp (xe_L m12 209 j20) 0) ≤ 0 then zD153_85 v1 v2 x15 m12 else zq_x v1 4 fun j128 => zq_x (xe_I m12 203 10) 3002 fun j132 => zq_dL (xe_L m12 209 j132) <| if (lg_cmp (((xe_I m12 214 j128).toInt64) - ((xe_I m12 214 j128).toInt64) / (xe_L m12 209 j132) * (xe_L m12 209 j132)) 0) = 0 then zD153_86 v1 v2 x15 1 m12 else zD153_85 v1 v2 x15 m12 else zD153_85 v1 v2 x15 m12 else if v4 = 0 then zD153_40 c25 v1 v2 v5 μ else zq_x v5 24 fun j137 => if (lg_cmp (xe_L μ 217 j137) v2) = 0 then zD153_40 c25 v1 v2 v5 μ else zD153_41 c25 v1 v2 v5 1 μ
def zD153_25   : Nat → Int32 → Int64 → Int32 → Int32 → xe_Mem → zO
  | 0 => fun _ _ _ _ _  => none
  | n + 1 => zD153_25_b   (zD153_25   n)
def zD153_22 (v1 : Int32) (v2 : Int64) (s0 : Int32) (μ : xe_Mem) : zO := zD153_25 zfu v1 v2 s0 0 μ
def zD153  (a1 : Int32) (μ : xe_Mem) : zO := zq_m (xe_setI μ 203 10 ((xe_I μ 203 10) + 1)) fun m1 => zq_x (xe_I m1 203 10) 3002 fun j3 => zq_vL (xe_L m1 209 j3) fun x7 => zq_x (xe_I m1 203 10) 3002 fun j8 => if (xe_I m1 207 j8) = 1 then zD153_22 a1 x7 1 m1 else zD153_22 a1 x7 0 m1
theorem zD153_118_ok {μ0 : xe_Mem} {δ : xe_Dy} {d : Nat} (hd : 6 ≤ d)  : ∀ (l0 : Option Value) (l1 : Option Value) (l2 : Option Value) (l4 : Option Value) (l5 : Option Value) (μ : xe_Mem), zT zPr μ0 μ → zK zPr μ0 δ d 153 118 [l0, l1, l2, none, l4, l5, none] [] μ (zD153_118  μ) := by
  intro l0 l1 l2 l4 l5 μ hT
  unfold zD153_118
  refine zK_op rfl rfl ?_
  exact zK_ret3 rfl (Or.inl rfl) hT
theorem zD153_213_ok {μ0 : xe_Mem} {δ : xe_Dy} {d : Nat} (hd : 6 ≤ d)  : ∀ (l0 : Option Value) (l1 : Option Value) (l2 : Option Value) (l4 : Option Value) (l5 : Option Value) (l6 : Option Value) (μ : xe_Mem), zT zPr μ0 μ → zK zPr μ0 δ d 153 213 [l0, l1, l2, none, l4, l5, l6] [] μ (zD153_213  μ) := by
  intro l0 l1 l2 l4 l5 l6 μ hT
  unfold zD153_213
  refine zK_op rfl rfl ?_
  exact zK_ret3 rfl (Or.inl rfl) hT
theorem zD153_196_bok {μ0 : xe_Mem} {δ : xe_Dy} {d : Nat} (hd : 6 ≤ d)  {c196 : Int32 → Int32 → xe_Mem → zO} (hc196 : ∀ (v1 : Int32) (v5 : Int32) (l2 : Option Value) (l4 : Option Value) (l6 : Option Value) (μ : xe_Mem), zT zPr μ0 μ → zK zPr μ0 δ d 153 196 [some (.ref 203), some (.int v1), l2, none, l4, some (.int v5), l6] [] μ (c196 v1 v5 μ)) : ∀ (v1 : Int32) (v5 : Int32) (l2 : Option Value) (l4 : Option Value) (l6 : Option Value) (μ : xe_Mem), zT zPr μ0 μ → zK zPr μ0 δ d 153 196 [some (.ref 203), some (.int v1), l2, none, l4, some (.int v5), l6] [] μ (zD153_196_b  c196 v1 v5 μ) := by
  intro v1 v5 l2 l4 l6 μ hT
  unfold zD153_196_b
  refine zK_op rfl rfl ?_
  refine zK_gI rfl rfl hT ?_
  refine zK_ifle rfl (fun _ => ?_) (fun _ => ?_)
  · refine zK_op rfl rfl ?_
    refine zK_op rfl rfl ?_
    refine zK_op rfl rfl ?_
    refine zK_cV rfl (as := [.ref 203, .int 13, .int 0]) (rest := []) rfl rfl (xe_rcvO (zT_sh hT rfl)) (Nat.le_of_ble_eq_true rfl) (Nat.le_of_ble_eq_true rfl) (by decide) (fun _ => rfl) (by omega) (zD157_ok (by omega) 13 0 μ hT) (fun m97 T98 => ?_)
    refine zK_op rfl rfl ?_
    refine zK_op rfl rfl ?_
    refine zK_gI rfl rfl T98 ?_
    refine zK_op rfl rfl ?_
    refine zK_op rfl rfl ?_
    refine zK_pI rfl rfl T98 rfl (fun m99 T100 => ?_)
    refine zK_op rfl rfl ?_
    exact zK_ret3 rfl (Or.inr rfl) T100
  refine zK_op rfl rfl ?_
  refine zK_op rfl rfl ?_
  refine zK_cI rfl (as := [.ref 203, .int 125]) (rest := []) rfl rfl (xe_rcvO (zT_sh hT rfl)) (Nat.le_of_ble_eq_true rfl) (Nat.le_of_ble_eq_true rfl) (by decide) (fun _ => rfl) (by omega) (zD147_ok (by omega) 125 μ hT) (fun x103 m101 T102 => ?_)
  refine zK_ifeq rfl (fun _ => ?_) (fun _ => ?_)
  · refine zK_op rfl rfl ?_
    refine zK_op rfl rfl ?_
    refine zK_op rfl rfl ?_
    refine zK_cI rfl (as := [.ref 203, .int v5, .int v1]) (rest := []) rfl rfl (xe_rcvO (zT_sh T102 rfl)) (Nat.le_of_ble_eq_true rfl) (Nat.le_of_ble_eq_true rfl) (by decide) (fun _ => rfl) (by omega) (zD159_ok (by omega) v5 v1 m101 T102) (fun x106 m104 T105 => ?_)
    refine zK_ifne rfl (fun _ => ?_) (fun _ => ?_)
    · exact zD153_213_ok hd _ _ _ _ _ _ m104 T105
    exact hc196 v1 v5 _ _ _ m104 T105
  refine zK_op rfl rfl ?_
  refine zK_op rfl rfl ?_
  refine zK_cI rfl (as := [.ref 203, .int v5]) (rest := []) rfl rfl (xe_rcvO (zT_sh T102 rfl)) (Nat.le_of_ble_eq_true rfl) (Nat.le_of_ble_eq_true rfl) (by decide) (fun _ => rfl) (by omega) (zD156_ok (by omega) v5 m101 T102) (fun x109 m107 T108 => ?_)
  refine zK_ifeq rfl (fun _ => ?_) (fun _ => ?_)
  · exact zD153_213_ok hd _ _ _ _ _ _ m107 T108
  refine zK_op rfl rfl ?_
  exact hc196 v1 v5 _ _ _ m107 T108
theorem zD153_196_ok {μ0 : xe_Mem} {δ : xe_Dy} {d : Nat} (hd : 6 ≤ d)  : ∀ n : Nat, ∀ (v1 : Int32) (v5 : Int32) (l2 : Option Value) (l4 : Option Value) (l6 : Option Value) (μ : xe_Mem), zT zPr μ0 μ → zK zPr μ0 δ d 153 196 [some (.ref 203), some (.int v1), l2, none, l4, some (.int v5), l6] [] μ (zD153_196  n v1 v5 μ) := by
  intro n
  induction n with
  | zero => exact fun _ _ _ _ _ _ _  => fun o μ' h => by cases h
  | succ n ih => exact zD153_196_bok hd   ih
theorem zD153_174_bok {μ0 : xe_Mem} {δ : xe_Dy} {d : Nat} (hd : 6 ≤ d)  {c174 : Int32 → Int32 → Int32 → xe_Mem → zO} (hc174 : ∀ (v1 : Int32) (v5 : Int32) (v6 : Int32) (l2 : Option Value) (l4 : Option Value) (μ : xe_Mem), zT zPr μ0 μ → zK zPr μ0 δ d 153 174 [some (.ref 203), some (.int v1), l2, none, l4, some (.int v5), some (.int v6)] [] μ (c174 v1 v5 v6 μ)) : ∀ (v1 : Int32) (v5 : Int32) (v6 : Int32) (l2 : Option Value) (l4 : Option Value) (μ : xe_Mem), zT zPr μ0 μ → zK zPr μ0 δ d 153 174 [some (.ref 203), some (.int v1), l2, none, l4, some (.int v5), some (.int v6)] [] μ (zD153_174_b  c174 v1 v5 v6 μ) := by
  intro v1 v5 v6 l2 l4 μ hT
  unfold zD153_174_b
  refine zK_op rfl rfl ?_
  refine zK_op rfl rfl ?_
  refine zK_icge rfl (fun _ => ?_) (fun _ => ?_)
  · refine zK_op rfl rfl ?_
    refine zK_op rfl rfl ?_
    refine zK_cI rfl (as := [.ref 203, .int 123]) (rest := []) rfl rfl (xe_rcvO (zT_sh hT rfl)) (Nat.le_of_ble_eq_true rfl) (Nat.le_of_ble_eq_true rfl) (by decide) (fun _ => rfl) (by omega) (zD146_ok (by omega) 123 μ hT) (fun x92 m90 T91 => ?_)
    refine zK_ifne rfl (fun _ => ?_) (fun _ => ?_)
    · refine zK_op rfl rfl ?_
      exact zK_ret3 rfl (Or.inl rfl) T91
    refine zK_op rfl rfl ?_
    refine zK_op rfl rfl ?_
    refine zK_pI rfl rfl T91 rfl (fun m93 T94 => ?_)
    refine zK_op rfl rfl ?_
    refine zK_op rfl rfl ?_
    refine zK_cV rfl (as := [.ref 203, .int 0]) (rest := []) rfl rfl (xe_rcvO (zT_sh T94 rfl)) (Nat.le_of_ble_eq_true rfl) (Nat.le_of_ble_eq_true rfl) (by decide) (fun _ => rfl) (by omega) (zD155_ok (by omega) 0 m93 T94) (fun m95 T96 => ?_)
    exact zD153_196_ok hd zfu v1 v5 _ _ _ m95 T96
  refine zK_op rfl rfl ?_
  refine zK_gRl (b := 242) rfl rfl rfl hT ?_
  refine zK_op rfl rfl ?_
  refine zK_op rfl rfl ?_
  refine zK_x (fun j110 h111 h112 h113 => ?_)
  refine zK_sI (a := 242) (g := (vp_nar .boolean)) rfl rfl hT h111 h112 h113 rfl (fun m114 T115 => ?_)
  refine zK_op rfl rfl ?_
  refine zK_op rfl rfl ?_
  exact hc174 v1 v5 (v6 + (1)) _ _ m114 T115
theorem zD153_174_ok {μ0 : xe_Mem} {δ : xe_Dy} {d : Nat} (hd : 6 ≤ d)  : ∀ n : Nat, ∀ (v1 : Int32) (v5 : Int32) (v6 : Int32) (l2 : Option Value) (l4 : Option Value) (μ : xe_Mem), zT zPr μ0 μ → zK zPr μ0 δ d 153 174 [some (.ref 203), some (.int v1), l2, none, l4, some (.int v5), some (.int v6)] [] μ (zD153_174  n v1 v5 v6 μ) := by
  intro n
  induction n with
  | zero => exact fun _ _ _ _ _ _ _  => fun o μ' h => by cases h
  | succ n ih => exact zD153_174_bok hd   ih
theorem zD153_149_bok {μ0 : xe_Mem} {δ : xe_Dy} {d : Nat} (hd : 6 ≤ d)  {c149 : Int32 → Int32 → Int32 → xe_Mem → zO} (hc149 : ∀ (v1 : Int32) (v5 : Int32) (v6 : Int32) (l2 : Option Value) (l4 : Option Value) (μ : xe_Mem), zT zPr μ0 μ → zK zPr μ0 δ d 153 149 [some (.ref 203), some (.int v1), l2, none, l4, some (.int v5), some (.int v6)] [] μ (c149 v1 v5 v6 μ)) : ∀ (v1 : Int32) (v5 : Int32) (v6 : Int32) (l2 : Option Value) (l4 : Option Value) (μ : xe_Mem), zT zPr μ0 μ → zK zPr μ0 δ d 153 149 [some (.ref 203), some (.int v1), l2, none, l4, some (.int v5), some (.int v6)] [] μ (zD153_149_b  c149 v1 v5 v6 μ) := by
  intro v1 v5 v6 l2 l4 μ hT
  unfold zD153_149_b
  refine zK_op rfl rfl ?_
  refine zK_op rfl rfl ?_
  refine zK_icge rfl (fun _ => ?_) (fun _ => ?_)
  · refine zK_op rfl rfl ?_
    refine zK_op rfl rfl ?_
    exact zD153_174_ok hd zfu v1 v5 0 _ _ μ hT
  refine zK_op rfl rfl ?_
  refine zK_gRl (b := 226) rfl rfl rfl hT ?_
  refine zK_op rfl rfl ?_
  refine zK_op rfl rfl ?_
  refine zK_op rfl rfl ?_
  refine zK_op rfl rfl ?_
  refine zK_op rfl rfl ?_
  refine zK_op rfl rfl ?_
  refine zK_x (fun j116 h117 h118 h119 => ?_)
  refine zK_sI (a := 226) (g := (vp_nar .boolean)) rfl rfl hT h117 h118 h119 rfl (fun m120 T121 => ?_)
  refine zK_op rfl rfl ?_
  refine zK_gRl (b := 227) rfl rfl rfl T121 ?_
  refine zK_op rfl rfl ?_
  refine zK_op rfl rfl ?_
  refine zK_op rfl rfl ?_
  refine zK_op rfl rfl ?_
  refine zK_op rfl rfl ?_
  refine zK_op rfl rfl ?_
  refine zK_x (fun j122 h123 h124 h125 => ?_)
  refine zK_sI (a := 227) (g := (vp_nar .boolean)) rfl rfl T121 h123 h124 h125 rfl (fun m126 T127 => ?_)
  refine zK_op rfl rfl ?_
  refine zK_op rfl rfl ?_
  exact hc149 v1 v5 (v6 + (1)) _ _ m126 T127
theorem zD153_149_ok {μ0 : xe_Mem} {δ : xe_Dy} {d : Nat} (hd : 6 ≤ d)  : ∀ n : Nat, ∀ (v1 : Int32) (v5 : Int32) (v6 : Int32) (l2 : Option Value) (l4 : Option Value) (μ : xe_Mem), zT zPr μ0 μ → zK zPr μ0 δ d 153 149 [some (.ref 203), some (.int v1), l2, none, l4, some (.int v5), some (.int v6)] [] μ (zD153_149  n v1 v5 v6 μ) := by
  intro n
  induction n with
  | zero => exact fun _ _ _ _ _ _ _  => fun o μ' h => by cases h
  | succ n ih => exact zD153_149_bok hd   ih
theorem zD153_86_ok {μ0 : xe_Mem} {δ : xe_Dy} {d : Nat} (hd : 6 ≤ d)  : ∀ (v1 : Int32) (v2 : Int64) (v5 : Int32) (s1 : Int32) (l4 : Option Value) (μ : xe_Mem), zT zPr μ0 μ → zK zPr μ0 δ d 153 86 [some (.ref 203), some (.int v1), some (.long v2), none, l4, some (.int v5), none] [.int s1, .ref 203] μ (zD153_86  v1 v2 v5 s1 μ) := by
  intro v1 v2 v5 s1 l4 μ hT
  unfold zD153_86
  refine zK_cI rfl (as := [.ref 203, .int s1]) (rest := []) rfl rfl (xe_rcvO (zT_sh hT rfl)) (Nat.le_of_ble_eq_true rfl) (Nat.le_of_ble_eq_true rfl) (by decide) (fun _ => rfl) (by omega) (zD143_ok (by omega) s1 μ hT) (fun x26 m24 T25 => ?_)
  refine zK_ifne rfl (fun _ => ?_) (fun _ => ?_)
  · refine zK_op rfl rfl ?_
    exact zK_ret3 rfl (Or.inl rfl) T25
  refine zK_op rfl rfl ?_
  refine zK_gRl (b := 220) rfl rfl rfl T25 ?_
  refine zK_op rfl rfl ?_
  refine zK_op rfl rfl ?_
  refine zK_cI rfl (as := [.ref 203]) (rest := [.int v5, .ref 220]) rfl rfl (xe_rcvO (zT_sh T25 rfl)) (Nat.le_of_ble_eq_true rfl) (Nat.le_of_ble_eq_true rfl) (by decide) (fun _ => rfl) (by omega) (zD149_ok (by omega) m24 T25) (fun x29 m27 T28 => ?_)
  refine zK_x (fun j30 h31 h32 h33 => ?_)
  refine zK_sI (a := 220) (g := (fun x => x)) rfl rfl T28 h31 h32 h33 rfl (fun m34 T35 => ?_)
  refine zK_op rfl rfl ?_
  refine zK_gRl (b := 221) rfl rfl rfl T35 ?_
  refine zK_op rfl rfl ?_
  refine zK_op rfl rfl ?_
  refine zK_gRl (b := 214) rfl rfl rfl T35 ?_
  refine zK_op rfl rfl ?_
  refine zK_x (fun j36 h37 h38 h39 => ?_)
  refine zK_aI rfl rfl T35 h37 h38 h39 ?_
  refine zK_op rfl rfl ?_
  refine zK_gRl (b := 220) rfl rfl rfl T35 ?_
  refine zK_op rfl rfl ?_
  refine zK_x (fun j40 h41 h42 h43 => ?_)
  refine zK_aI rfl rfl T35 h41 h42 h43 ?_
  refine zK_dv (fun h44 => ?_)
  refine zK_i2d rfl h44 ?_
  refine zK_x (fun j45 h46 h47 h48 => ?_)
  refine zK_sI (a := 221) (g := (fun x => x)) rfl rfl T35 h46 h47 h48 rfl (fun m49 T50 => ?_)
  refine zK_op rfl rfl ?_
  refine zK_op rfl rfl ?_
  refine zK_cI rfl (as := [.ref 203, .int 4]) (rest := []) rfl rfl (xe_rcvO (zT_sh T50 rfl)) (Nat.le_of_ble_eq_true rfl) (Nat.le_of_ble_eq_true rfl) (by decide) (fun _ => rfl) (by omega) (zD154_ok (by omega) 4 m49 T50) (fun x53 m51 T52 => ?_)
  refine zK_ifeq rfl (fun _ => ?_) (fun _ => ?_)
  · exact zD153_118_ok hd _ _ _ _ _ m51 T52
  refine zK_op rfl rfl ?_
  refine zK_op rfl rfl ?_
  refine zK_op rfl rfl ?_
  refine zK_cI rfl (as := [.ref 203, .long 0, .long 3]) (rest := []) rfl rfl (xe_rcvO (zT_sh T52 rfl)) (Nat.le_of_ble_eq_true rfl) (Nat.le_of_ble_eq_true rfl) (by decide) (fun _ => rfl) (by omega) (zD148_ok (by omega) 0 3 m51 T52) (fun x56 m54 T55 => ?_)
  refine zK_ifne rfl (fun _ => ?_) (fun _ => ?_)
  · exact zD153_118_ok hd _ _ _ _ _ m54 T55
  refine zK_op rfl rfl ?_
  refine zK_gRl (b := 217) rfl rfl rfl T55 ?_
  refine zK_op rfl rfl ?_
  refine zK_op rfl rfl ?_
  refine zK_x (fun j57 h58 h59 h60 => ?_)
  refine zK_sL rfl rfl T55 h58 h59 h60 rfl (fun m61 T62 => ?_)
  refine zK_op rfl rfl ?_
  refine zK_gRl (b := 218) rfl rfl rfl T62 ?_
  refine zK_op rfl rfl ?_
  refine zK_op rfl rfl ?_
  refine zK_x (fun j63 h64 h65 h66 => ?_)
  refine zK_sI (a := 218) (g := (fun x => x)) rfl rfl T62 h64 h65 h66 rfl (fun m67 T68 => ?_)
  refine zK_op rfl rfl ?_
  refine zK_gRl (b := 219) rfl rfl rfl T68 ?_
  refine zK_op rfl rfl ?_
  refine zK_op rfl rfl ?_
  refine zK_cI rfl (as := [.ref 203]) (rest := [.int v5, .ref 219]) rfl rfl (xe_rcvO (zT_sh T68 rfl)) (Nat.le_of_ble_eq_true rfl) (Nat.le_of_ble_eq_true rfl) (by decide) (fun _ => rfl) (by omega) (zD149_ok (by omega) m67 T68) (fun x71 m69 T70 => ?_)
  refine zK_x (fun j72 h73 h74 h75 => ?_)
  refine zK_sI (a := 219) (g := (fun x => x)) rfl rfl T70 h73 h74 h75 rfl (fun m76 T77 => ?_)
  refine zK_op rfl rfl ?_
  refine zK_gRl (b := 223) rfl rfl rfl T77 ?_
  refine zK_op rfl rfl ?_
  refine zK_op rfl rfl ?_
  refine zK_x (fun j78 h79 h80 h81 => ?_)
  refine zK_sI (a := 223) (g := (fun x => x)) rfl rfl T77 h79 h80 h81 rfl (fun m82 T83 => ?_)
  refine zK_op rfl rfl ?_
  refine zK_gRl (b := 224) rfl rfl rfl T83 ?_
  refine zK_op rfl rfl ?_
  refine zK_op rfl rfl ?_
  refine zK_gI rfl rfl T83 ?_
  refine zK_x (fun j84 h85 h86 h87 => ?_)
  refine zK_sI (a := 224) (g := (fun x => x)) rfl rfl T83 h85 h86 h87 rfl (fun m88 T89 => ?_)
  refine zK_op rfl rfl ?_
  refine zK_op rfl rfl ?_
  exact zD153_149_ok hd zfu v1 v5 0 _ _ m88 T89
theorem zD153_85_ok {μ0 : xe_Mem} {δ : xe_Dy} {d : Nat} (hd : 6 ≤ d)  : ∀ (v1 : Int32) (v2 : Int64) (v5 : Int32) (l4 : Option Value) (μ : xe_Mem), zT zPr μ0 μ → zK zPr μ0 δ d 153 85 [some (.ref 203), some (.int v1), some (.long v2), none, l4, some (.int v5), none] [.ref 203] μ (zD153_85  v1 v2 v5 μ) := by
  intro v1 v2 v5 l4 μ hT
  unfold zD153_85
  refine zK_op rfl rfl ?_
  exact zD153_86_ok hd v1 v2 v5 0 _ μ hT
theorem zD153_41_ok {μ0 : xe_Mem} {δ : xe_Dy} {d : Nat} (hd : 6 ≤ d) {c25 : Int32 → Int64 → Int32 → Int32 → xe_Mem → zO} (hc25 : ∀ (v1 : Int32) (v2 : Int64) (v4 : Int32) (v5 : Int32) (μ : xe_Mem), zT zPr μ0 μ → zK zPr μ0 δ d 153 25 [some (.ref 203), some (.int v1), some (.long v2), none, some (.int v4), some (.int v5), none] [] μ (c25 v1 v2 v4 v5 μ)) : ∀ (v1 : Int32) (v2 : Int64) (v5 : Int32) (s0 : Int32) (l4 : Option Value) (μ : xe_Mem), zT zPr μ0 μ → zK zPr μ0 δ d 153 41 [some (.ref 203), some (.int v1), some (.long v2), none, l4, some (.int v5), none] [.int s0] μ (zD153_41  c25 v1 v2 v5 s0 μ) := by
  intro v1 v2 v5 s0 l4 μ hT
  unfold zD153_41
  refine zK_op rfl rfl ?_
  refine zK_op rfl rfl ?_
  refine zK_op rfl rfl ?_
  exact hc25 v1 v2 s0 (v5 + (1)) μ hT
theorem zD153_40_ok {μ0 : xe_Mem} {δ : xe_Dy} {d : Nat} (hd : 6 ≤ d) {c25 : Int32 → Int64 → Int32 → Int32 → xe_Mem → zO} (hc25 : ∀ (v1 : Int32) (v2 : Int64) (v4 : Int32) (v5 : Int32) (μ : xe_Mem), zT zPr μ0 μ → zK zPr μ0 δ d 153 25 [some (.ref 203), some (.int v1), some (.long v2), none, some (.int v4), some (.int v5), none] [] μ (c25 v1 v2 v4 v5 μ)) : ∀ (v1 : Int32) (v2 : Int64) (v5 : Int32) (l4 : Option Value) (μ : xe_Mem), zT zPr μ0 μ → zK zPr μ0 δ d 153 40 [some (.ref 203), some (.int v1), some (.long v2), none, l4, some (.int v5), none] [] μ (zD153_40  c25 v1 v2 v5 μ) := by
  intro v1 v2 v5 l4 μ hT
  unfold zD153_40
  refine zK_op rfl rfl ?_
  exact zD153_41_ok hd hc25 v1 v2 v5 0 _ μ hT
theorem zD153_25_bok {μ0 : xe_Mem} {δ : xe_Dy} {d : Nat} (hd : 6 ≤ d)  {c25 : Int32 → Int64 → Int32 → Int32 → xe_Mem → zO} (hc25 : ∀ (v1 : Int32) (v2 : Int64) (v4 : Int32) (v5 : Int32) (μ : xe_Mem), zT zPr μ0 μ → zK zPr μ0 δ d 153 25 [some (.ref 203), some (.int v1), some (.long v2), none, some (.int v4), some (.int v5), none] [] μ (c25 v1 v2 v4 v5 μ)) : ∀ (v1 : Int32) (v2 : Int64) (v4 : Int32) (v5 : Int32) (μ : xe_Mem), zT zPr μ0 μ → zK zPr μ0 δ d 153 25 [some (.ref 203), some (.int v1), some (.long v2), none, some (.int v4), some (.int v5), none] [] μ (zD153_25_b  c25 v1 v2 v4 v5 μ) := by
  intro v1 v2 v4 v5 μ hT
  unfold zD153_25_b
  refine zK_op rfl rfl ?_
  refine zK_op rfl rfl ?_
  refine zK_gI rfl rfl hT ?_
  refine zK_icge rfl (fun _ => ?_) (fun _ => ?_)
  · refine zK_op rfl rfl ?_
    refine zK_op rfl rfl ?_
    refine zK_cI rfl (as := [.ref 203, .int v4]) (rest := []) rfl rfl (xe_rcvO (zT_sh hT rfl)) (Nat.le_of_ble_eq_true rfl) (Nat.le_of_ble_eq_true rfl) (by decide) (fun _ => rfl) (by omega) (zD143_ok (by omega) v4 μ hT) (fun x14 m12 T13 => ?_)
    refine zK_ifne rfl (fun _ => ?_) (fun _ => ?_)
    · refine zK_op rfl rfl ?_
      exact zK_ret3 rfl (Or.inl rfl) T13
    refine zK_op rfl rfl ?_
    refine zK_gI rfl rfl T13 ?_
    refine zK_vI (fun x15 => ?_)
    refine zK_op rfl rfl ?_
    refine zK_op rfl rfl ?_
    refine zK_op rfl rfl ?_
    refine zK_gRl (b := 207) rfl rfl rfl T13 ?_
    refine zK_op rfl rfl ?_
    refine zK_gI rfl rfl T13 ?_
    refine zK_x (fun j16 h17 h18 h19 => ?_)
    refine zK_aI rfl rfl T13 h17 h18 h19 ?_
    refine zK_op rfl rfl ?_
    refine zK_icne rfl (fun _ => ?_) (fun _ => ?_)
    · refine zK_op rfl rfl ?_
      refine zK_gRl (b := 209) rfl rfl rfl T13 ?_
      refine zK_op rfl rfl ?_
      refine zK_gI rfl rfl T13 ?_
      refine zK_x (fun j20 h21 h22 h23 => ?_)
      refine zK_aL rfl rfl T13 h21 h22 h23 ?_
      refine zK_op rfl rfl ?_
      refine zK_op rfl rfl ?_
      refine zK_ifle rfl (fun _ => ?_) (fun _ => ?_)
      · exact zD153_85_ok hd v1 v2 x15 _ m12 T13
      refine zK_op rfl rfl ?_
      refine zK_gRl (b := 214) rfl rfl rfl T13 ?_
      refine zK_op rfl rfl ?_
      refine zK_x (fun j128 h129 h130 h131 => ?_)
      refine zK_aI rfl rfl T13 h129 h130 h131 ?_
      refine zK_op rfl rfl ?_
      refine zK_op rfl rfl ?_
      refine zK_gRl (b := 209) rfl rfl rfl T13 ?_
      refine zK_op rfl rfl ?_
      refine zK_gI rfl rfl T13 ?_
      refine zK_x (fun j132 h133 h134 h135 => ?_)
      refine zK_aL rfl rfl T13 h133 h134 h135 ?_
      refine zK_dvL (fun h136 => ?_)
      refine zK_l2d rfl h136 ?_
      refine zK_op rfl rfl ?_
      refine zK_op rfl rfl ?_
      refine zK_ifne rfl (fun _ => ?_) (fun _ => ?_)
      · refine zK_op rfl rfl ?_
        refine zK_op rfl rfl ?_
        exact zD153_86_ok hd v1 v2 x15 1 _ m12 T13
      exact zD153_85_ok hd v1 v2 x15 _ m12 T13
    exact zD153_85_ok hd v1 v2 x15 _ m12 T13
  refine zK_op rfl rfl ?_
  refine zK_ifeq rfl (fun _ => ?_) (fun _ => ?_)
  · exact zD153_40_ok hd hc25 v1 v2 v5 _ μ hT
  refine zK_op rfl rfl ?_
  refine zK_gRl (b := 217) rfl rfl rfl hT ?_
  refine zK_op rfl rfl ?_
  refine zK_x (fun j137 h138 h139 h140 => ?_)
  refine zK_aL rfl rfl hT h138 h139 h140 ?_
  refine zK_op rfl rfl ?_
  refine zK_op rfl rfl ?_
  refine zK_ifeq rfl (fun _ => ?_) (fun _ => ?_)
  · exact zD153_40_ok hd hc25 v1 v2 v5 _ μ hT
  refine zK_op rfl rfl ?_
  refine zK_op rfl rfl ?_
  exact zD153_41_ok hd hc25 v1 v2 v5 1 _ μ hT
theorem zD153_25_ok {μ0 : xe_Mem} {δ : xe_Dy} {d : Nat} (hd : 6 ≤ d)  : ∀ n : Nat, ∀ (v1 : Int32) (v2 : Int64) (v4 : Int32) (v5 : Int32) (μ : xe_Mem), zT zPr μ0 μ → zK zPr μ0 δ d 153 25 [some (.ref 203), some (.int v1), some (.long v2), none, some (.int v4), some (.int v5), none] [] μ (zD153_25  n v1 v2 v4 v5 μ) := by
  intro n
  induction n with
  | zero => exact fun _ _ _ _ _ _  => fun o μ' h => by cases h
  | succ n ih => exact zD153_25_bok hd   ih
theorem zD153_22_ok {μ0 : xe_Mem} {δ : xe_Dy} {d : Nat} (hd : 6 ≤ d)  : ∀ (v1 : Int32) (v2 : Int64) (s0 : Int32) (μ : xe_Mem), zT zPr μ0 μ → zK zPr μ0 δ d 153 22 [some (.ref 203), some (.int v1), some (.long v2), none, none, none, none] [.int s0] μ (zD153_22  v1 v2 s0 μ) := by
  intro v1 v2 s0 μ hT
  unfold zD153_22
  refine zK_op rfl rfl ?_
  refine zK_op rfl rfl ?_
  refine zK_op rfl rfl ?_
  exact zD153_25_ok hd zfu v1 v2 s0 0 μ hT
theorem zD153_ok {μ0 : xe_Mem} {δ : xe_Dy} {d : Nat} (hd : 6 ≤ d) (a1 : Int32) (μ : xe_Mem) (hT : zT zPr μ0 μ) : zK zPr μ0 δ d 153 0 (xe_init [.ref 203, .int a1] (xM_L 153)) [] μ (zD153 a1 μ) := by
  unfold zD153
  show zK zPr μ0 δ d 153 0 [some (.ref 203), some (.int a1), none, none, none, none, none] [] μ _
  refine zK_op rfl rfl ?_
  refine zK_op rfl rfl ?_
  refine zK_gI rfl rfl hT ?_
  refine zK_op rfl rfl ?_
  refine zK_op rfl rfl ?_
  refine zK_pI rfl rfl hT rfl (fun m1 T2 => ?_)
  refine zK_op rfl rfl ?_
  refine zK_gRl (b := 209) rfl rfl rfl T2 ?_
  refine zK_op rfl rfl ?_
  refine zK_gI rfl rfl T2 ?_
  refine zK_x (fun j3 h4 h5 h6 => ?_)
  refine zK_aL rfl rfl T2 h4 h5 h6 ?_
  refine zK_vL (fun x7 => ?_)
  refine zK_op rfl rfl ?_
  refine zK_op rfl rfl ?_
  refine zK_gRl (b := 207) rfl rfl rfl T2 ?_
  refine zK_op rfl rfl ?_
  refine zK_gI rfl rfl T2 ?_
  refine zK_x (fun j8 h9 h10 h11 => ?_)
  refine zK_aI rfl rfl T2 h9 h10 h11 ?_
  refine zK_op rfl rfl ?_
  refine zK_icne rfl (fun _ => ?_) (fun _ => ?_)
  · refine zK_op rfl rfl ?_
    refine zK_op rfl rfl ?_
    exact zD153_22_ok hd a1 x7 1 m1 T2
  refine zK_op rfl rfl ?_
  exact zD153_22_ok hd a1 x7 0 m1 T2
/-! 167 LogicalTimesModel.readSwitch(I)Z -/
def zD167_91 (μ : xe_Mem) : zO := some (.inl (some (.int 0)), μ)
def zD167_157 (s1 : Int32) (μ : xe_Mem) : zO := zq_cI (zD143 s1 μ) fun x70 m68 => if x70 = 0 then some (.inl (some (.int 0)), m68) else zq_m (xe_setI m68 203 37 ((xe_I m68 203 37) + 1)) fun m71 => zq_cI (zD146 59 m71) fun x75 m73 => zq_z x75 <| some (.inl (some (.int x75)), m73)
def zD167_80 (c58 : Int32 → Int32 → Int32 → Int32 → xe_Mem → zO) (v1 : Int32) (v3 : Int32) (v4 : Int32) (s0 : Int32) (μ : xe_Mem) : zO := c58 v1 s0 v3 (v4 + (1)) μ
def zD167_79 (c58 : Int32 → Int32 → Int32 → Int32 → xe_Mem → zO) (v1 : Int32) (v3 : Int32) (v4 : Int32) (μ : xe_Mem) : zO := zD167_80 c58 v1 v3 v4 0 μ
def zD167_77 (c58 : Int32 → Int32 → Int32 → Int32 → xe_Mem → zO) (v1 : Int32) (v3 : Int32) (v4 : Int32) (μ : xe_Mem) : zO := zD167_80 c58 v1 v3 v4 1 μ
def zD167_58_b (c58 : Int32 → Int32 → Int32 → Int32 → xe_Mem → zO) (v1 : Int32) (v2 : Int32) (v3 : Int32) (v4 : Int32) (μ : xe_Mem) : zO := if (xe_I μ 203 22) ≤ v4 then zq_cI (zD143 v2 μ) fun x13 m11 => if x13 = 0 then zD167_91 m11 else zq_cI (zD154 5 m11) fun x16 m14 => if x16 = 0 then zD167_91 m14 else zq_vI (xe_I m14 203 37) fun x17 => zq_x x17 16 fun j18 => zq_m (xe_setI m14 231 j18 v1) fun m22 => zq_x x17 16 fun j24 => zq_m (xe_setI m22 232 j24 v3) fun m28 => zq_x x17 16 fun j30 => zq_m (xe_setI m28 233 j30 (xe_I m28 203 47)) fun m34 => zq_cI (zD160 ((-1)) m34) fun x38 m36 => if x38 = 0 then some (.inl (some (.int 0)), m36) else zq_cV (zD157 13 0 m36) fun m39 => zq_cI (zD154 9 m39) fun x43 m41 => if x43 = 0 then some (.inl (some (.int 0)), m41) else zq_x (xe_I m41 203 10) 3002 fun j44 => zq_x x17 16 fun j48 => zq_m (xe_setL m41 234 j48 (xe_L m41 209 j44)) fun m52 => zq_x (xe_I m52 203 10) 3002 fun j54 => zq_x x17 16 fun j58 => zq_m (xe_setI m52 235 j58 (xe_I m52 208 j54)) fun m62 => zq_x (xe_I m62 203 10) 3002 fun j64 => if (xe_I m62 207 j64) = 1 then zD167_157 1 m62 else zD167_157 0 m62 else if v2 = 0 then zD167_79 c58 v1 v3 v4 μ else zq_x v4 24 fun j76 => if (xe_I μ 218 j76) = v1 then zq_x v4 24 fun j80 => zq_d (xe_I μ 221 j80) <| if (v3 - v3 / (xe_I μ 221 j80) * (xe_I μ 221 j80)) = 0 then zD167_77 c58 v1 v3 v4 μ else zD167_79 c58 v1 v3 v4 μ else zD167_77 c58 v1 v3 v4 μ
def zD167_58   : Nat → Int32 → Int32 → Int32 → Int32 → xe_Mem → zO
  | 0 => fun _ _ _ _ _  => none
  | n + 1 => zD167_58_b   (zD167_58   n)
def zD167_55 (v1 : Int32) (v2 : Int32) (s0 : Int32) (μ : xe_Mem) : zO := zD167_58 zfu v1 v2 s0 0 μ
def zD167_38 (v1 : Int32) (s0 : Int32) (μ : xe_Mem) : zO := if s0 = 0 then zD167_55 v1 s0 1 μ else zq_x v1 4 fun j85 => zq_x (xe_I μ 203 10) 3002 fun j89 => zq_dL (xe_L μ 209 j89) <| zD167_55 v1 s0 ((((xe_I μ 214 j85).toInt64) / (xe_L μ 209 j89)).toInt32) μ
def zD167_37 (v1 : Int32) (μ : xe_Mem) : zO := zD167_38 v1 0 μ
def zD167  (a1 : Int32) (μ : xe_Mem) : zO := zq_m (xe_setI μ 203 10 ((xe_I μ 203 10) + 1)) fun m1 => zq_x (xe_I m1 203 10) 3002 fun j3 => if (xe_I m1 207 j3) = 2 then zq_x (xe_I m1 203 10) 3002 fun j7 => if (lg_cmp (xe_L m1 209 j7) 0) ≤ 0 then zD167_37 a1 m1 else zq_x a1 4 fun j94 => zq_x (xe_I m1 203 10) 3002 fun j98 => zq_dL (xe_L m1 209 j98) <| if (lg_cmp (((xe_I m1 214 j94).toInt64) - ((xe_I m1 214 j94).toInt64) / (xe_L m1 209 j98) * (xe_L m1 209 j98)) 0) = 0 then zD167_38 a1 1 m1 else zD167_37 a1 m1 else zD167_37 a1 m1
theorem zD167_91_ok {μ0 : xe_Mem} {δ : xe_Dy} {d : Nat} (hd : 4 ≤ d)  : ∀ (l0 : Option Value) (l1 : Option Value) (l2 : Option Value) (l3 : Option Value) (l4 : Option Value) (μ : xe_Mem), zT zPr μ0 μ → zK zPr μ0 δ d 167 91 [l0, l1, l2, l3, l4] [] μ (zD167_91  μ) := by
  intro l0 l1 l2 l3 l4 μ hT
  unfold zD167_91
  refine zK_op rfl rfl ?_
  exact zK_ret3 rfl (Or.inl rfl) hT
theorem zD167_157_ok {μ0 : xe_Mem} {δ : xe_Dy} {d : Nat} (hd : 4 ≤ d)  : ∀ (s1 : Int32) (l1 : Option Value) (l2 : Option Value) (l3 : Option Value) (l4 : Option Value) (μ : xe_Mem), zT zPr μ0 μ → zK zPr μ0 δ d 167 157 [some (.ref 203), l1, l2, l3, l4] [.int s1, .ref 203] μ (zD167_157  s1 μ) := by
  intro s1 l1 l2 l3 l4 μ hT
  unfold zD167_157
  refine zK_cI rfl (as := [.ref 203, .int s1]) (rest := []) rfl rfl (xe_rcvO (zT_sh hT rfl)) (Nat.le_of_ble_eq_true rfl) (Nat.le_of_ble_eq_true rfl) (by decide) (fun _ => rfl) (by omega) (zD143_ok (by omega) s1 μ hT) (fun x70 m68 T69 => ?_)
  refine zK_ifne rfl (fun _ => ?_) (fun _ => ?_)
  · refine zK_op rfl rfl ?_
    exact zK_ret3 rfl (Or.inl rfl) T69
  refine zK_op rfl rfl ?_
  refine zK_op rfl rfl ?_
  refine zK_gI rfl rfl T69 ?_
  refine zK_op rfl rfl ?_
  refine zK_op rfl rfl ?_
  refine zK_pI rfl rfl T69 rfl (fun m71 T72 => ?_)
  refine zK_op rfl rfl ?_
  refine zK_op rfl rfl ?_
  refine zK_cI rfl (as := [.ref 203, .int 59]) (rest := []) rfl rfl (xe_rcvO (zT_sh T72 rfl)) (Nat.le_of_ble_eq_true rfl) (Nat.le_of_ble_eq_true rfl) (by decide) (fun _ => rfl) (by omega) (zD146_ok (by omega) 59 m71 T72) (fun x75 m73 T74 => ?_)
  exact zK_ret3z rfl T74
theorem zD167_80_ok {μ0 : xe_Mem} {δ : xe_Dy} {d : Nat} (hd : 4 ≤ d) {c58 : Int32 → Int32 → Int32 → Int32 → xe_Mem → zO} (hc58 : ∀ (v1 : Int32) (v2 : Int32) (v3 : Int32) (v4 : Int32) (μ : xe_Mem), zT zPr μ0 μ → zK zPr μ0 δ d 167 58 [some (.ref 203), some (.int v1), some (.int v2), some (.int v3), some (.int v4)] [] μ (c58 v1 v2 v3 v4 μ)) : ∀ (v1 : Int32) (v3 : Int32) (v4 : Int32) (s0 : Int32) (l2 : Option Value) (μ : xe_Mem), zT zPr μ0 μ → zK zPr μ0 δ d 167 80 [some (.ref 203), some (.int v1), l2, some (.int v3), some (.int v4)] [.int s0] μ (zD167_80  c58 v1 v3 v4 s0 μ) := by
  intro v1 v3 v4 s0 l2 μ hT
  unfold zD167_80
  refine zK_op rfl rfl ?_
  refine zK_op rfl rfl ?_
  refine zK_op rfl rfl ?_
  exact hc58 v1 s0 v3 (v4 + (1)) μ hT
theorem zD167_79_ok {μ0 : xe_Mem} {δ : xe_Dy} {d : Nat} (hd : 4 ≤ d) {c58 : Int32 → Int32 → Int32 → Int32 → xe_Mem → zO} (hc58 : ∀ (v1 : Int32) (v2 : Int32) (v3 : Int32) (v4 : Int32) (μ : xe_Mem), zT zPr μ0 μ → zK zPr μ0 δ d 167 58 [some (.ref 203), some (.int v1), some (.int v2), some (.int v3), some (.int v4)] [] μ (c58 v1 v2 v3 v4 μ)) : ∀ (v1 : Int32) (v3 : Int32) (v4 : Int32) (l2 : Option Value) (μ : xe_Mem), zT zPr μ0 μ → zK zPr μ0 δ d 167 79 [some (.ref 203), some (.int v1), l2, some (.int v3), some (.int v4)] [] μ (zD167_79  c58 v1 v3 v4 μ) := by
  intro v1 v3 v4 l2 μ hT
  unfold zD167_79
  refine zK_op rfl rfl ?_
  exact zD167_80_ok hd hc58 v1 v3 v4 0 _ μ hT
theorem zD167_77_ok {μ0 : xe_Mem} {δ : xe_Dy} {d : Nat} (hd : 4 ≤ d) {c58 : Int32 → Int32 → Int32 → Int32 → xe_Mem → zO} (hc58 : ∀ (v1 : Int32) (v2 : Int32) (v3 : Int32) (v4 : Int32) (μ : xe_Mem), zT zPr μ0 μ → zK zPr μ0 δ d 167 58 [some (.ref 203), some (.int v1), some (.int v2), some (.int v3), some (.int v4)] [] μ (c58 v1 v2 v3 v4 μ)) : ∀ (v1 : Int32) (v3 : Int32) (v4 : Int32) (l2 : Option Value) (μ : xe_Mem), zT zPr μ0 μ → zK zPr μ0 δ d 167 77 [some (.ref 203), some (.int v1), l2, some (.int v3), some (.int v4)] [] μ (zD167_77  c58 v1 v3 v4 μ) := by
  intro v1 v3 v4 l2 μ hT
  unfold zD167_77
  refine zK_op rfl rfl ?_
  refine zK_op rfl rfl ?_
  exact zD167_80_ok hd hc58 v1 v3 v4 1 _ μ hT
theorem zD167_58_bok {μ0 : xe_Mem} {δ : xe_Dy} {d : Nat} (hd : 4 ≤ d)  {c58 : Int32 → Int32 → Int32 → Int32 → xe_Mem → zO} (hc58 : ∀ (v1 : Int32) (v2 : Int32) (v3 : Int32) (v4 : Int32) (μ : xe_Mem), zT zPr μ0 μ → zK zPr μ0 δ d 167 58 [some (.ref 203), some (.int v1), some (.int v2), some (.int v3), some (.int v4)] [] μ (c58 v1 v2 v3 v4 μ)) : ∀ (v1 : Int32) (v2 : Int32) (v3 : Int32) (v4 : Int32) (μ : xe_Mem), zT zPr μ0 μ → zK zPr μ0 δ d 167 58 [some (.ref 203), some (.int v1), some (.int v2), some (.int v3), some (.int v4)] [] μ (zD167_58_b  c58 v1 v2 v3 v4 μ) := by
  intro v1 v2 v3 v4 μ hT
  unfold zD167_58_b
  refine zK_op rfl rfl ?_
  refine zK_op rfl rfl ?_
  refine zK_gI rfl rfl hT ?_
  refine zK_icge rfl (fun _ => ?_) (fun _ => ?_)
  · refine zK_op rfl rfl ?_
    refine zK_op rfl rfl ?_
    refine zK_cI rfl (as := [.ref 203, .int v2]) (rest := []) rfl rfl (xe_rcvO (zT_sh hT rfl)) (Nat.le_of_ble_eq_true rfl) (Nat.le_of_ble_eq_true rfl) (by decide) (fun _ => rfl) (by omega) (zD143_ok (by omega) v2 μ hT) (fun x13 m11 T12 => ?_)
    refine zK_ifeq rfl (fun _ => ?_) (fun _ => ?_)
    · exact zD167_91_ok hd _ _ _ _ _ m11 T12
    refine zK_op rfl rfl ?_
    refine zK_op rfl rfl ?_
    refine zK_cI rfl (as := [.ref 203, .int 5]) (rest := []) rfl rfl (xe_rcvO (zT_sh T12 rfl)) (Nat.le_of_ble_eq_true rfl) (Nat.le_of_ble_eq_true rfl) (by decide) (fun _ => rfl) (by omega) (zD154_ok (by omega) 5 m11 T12) (fun x16 m14 T15 => ?_)
    refine zK_ifne rfl (fun _ => ?_) (fun _ => ?_)
    · exact zD167_91_ok hd _ _ _ _ _ m14 T15
    refine zK_op rfl rfl ?_
    refine zK_gI rfl rfl T15 ?_
    refine zK_vI (fun x17 => ?_)
    refine zK_op rfl rfl ?_
    refine zK_op rfl rfl ?_
    refine zK_gRl (b := 231) rfl rfl rfl T15 ?_
    refine zK_op rfl rfl ?_
    refine zK_op rfl rfl ?_
    refine zK_x (fun j18 h19 h20 h21 => ?_)
    refine zK_sI (a := 231) (g := (fun x => x)) rfl rfl T15 h19 h20 h21 rfl (fun m22 T23 => ?_)
    refine zK_op rfl rfl ?_
    refine zK_gRl (b := 232) rfl rfl rfl T23 ?_
    refine zK_op rfl rfl ?_
    refine zK_op rfl rfl ?_
    refine zK_x (fun j24 h25 h26 h27 => ?_)
    refine zK_sI (a := 232) (g := (fun x => x)) rfl rfl T23 h25 h26 h27 rfl (fun m28 T29 => ?_)
    refine zK_op rfl rfl ?_
    refine zK_gRl (b := 233) rfl rfl rfl T29 ?_
    refine zK_op rfl rfl ?_
    refine zK_op rfl rfl ?_
    refine zK_gI rfl rfl T29 ?_
    refine zK_x (fun j30 h31 h32 h33 => ?_)
    refine zK_sI (a := 233) (g := (fun x => x)) rfl rfl T29 h31 h32 h33 rfl (fun m34 T35 => ?_)
    refine zK_op rfl rfl ?_
    refine zK_op rfl rfl ?_
    refine zK_cI rfl (as := [.ref 203, .int ((-1))]) (rest := []) rfl rfl (xe_rcvO (zT_sh T35 rfl)) (Nat.le_of_ble_eq_true rfl) (Nat.le_of_ble_eq_true rfl) (by decide) (fun _ => rfl) (by omega) (zD160_ok (by omega) ((-1)) m34 T35) (fun x38 m36 T37 => ?_)
    refine zK_ifne rfl (fun _ => ?_) (fun _ => ?_)
    · refine zK_op rfl rfl ?_
      exact zK_ret3 rfl (Or.inl rfl) T37
    refine zK_op rfl rfl ?_
    refine zK_op rfl rfl ?_
    refine zK_op rfl rfl ?_
    refine zK_cV rfl (as := [.ref 203, .int 13, .int 0]) (rest := []) rfl rfl (xe_rcvO (zT_sh T37 rfl)) (Nat.le_of_ble_eq_true rfl) (Nat.le_of_ble_eq_true rfl) (by decide) (fun _ => rfl) (by omega) (zD157_ok (by omega) 13 0 m36 T37) (fun m39 T40 => ?_)
    refine zK_op rfl rfl ?_
    refine zK_op rfl rfl ?_
    refine zK_cI rfl (as := [.ref 203, .int 9]) (rest := []) rfl rfl (xe_rcvO (zT_sh T40 rfl)) (Nat.le_of_ble_eq_true rfl) (Nat.le_of_ble_eq_true rfl) (by decide) (fun _ => rfl) (by omega) (zD154_ok (by omega) 9 m39 T40) (fun x43 m41 T42 => ?_)
    refine zK_ifne rfl (fun _ => ?_) (fun _ => ?_)
    · refine zK_op rfl rfl ?_
      exact zK_ret3 rfl (Or.inl rfl) T42
    refine zK_op rfl rfl ?_
    refine zK_gRl (b := 234) rfl rfl rfl T42 ?_
    refine zK_op rfl rfl ?_
    refine zK_op rfl rfl ?_
    refine zK_gRl (b := 209) rfl rfl rfl T42 ?_
    refine zK_op rfl rfl ?_
    refine zK_gI rfl rfl T42 ?_
    refine zK_x (fun j44 h45 h46 h47 => ?_)
    refine zK_aL rfl rfl T42 h45 h46 h47 ?_
    refine zK_x (fun j48 h49 h50 h51 => ?_)
    refine zK_sL rfl rfl T42 h49 h50 h51 rfl (fun m52 T53 => ?_)
    refine zK_op rfl rfl ?_
    refine zK_gRl (b := 235) rfl rfl rfl T53 ?_
    refine zK_op rfl rfl ?_
    refine zK_op rfl rfl ?_
    refine zK_gRl (b := 208) rfl rfl rfl T53 ?_
    refine zK_op rfl rfl ?_
    refine zK_gI rfl rfl T53 ?_
    refine zK_x (fun j54 h55 h56 h57 => ?_)
    refine zK_aI rfl rfl T53 h55 h56 h57 ?_
    refine zK_x (fun j58 h59 h60 h61 => ?_)
    refine zK_sI (a := 235) (g := (fun x => x)) rfl rfl T53 h59 h60 h61 rfl (fun m62 T63 => ?_)
    refine zK_op rfl rfl ?_
    refine zK_op rfl rfl ?_
    refine zK_gRl (b := 207) rfl rfl rfl T63 ?_
    refine zK_op rfl rfl ?_
    refine zK_gI rfl rfl T63 ?_
    refine zK_x (fun j64 h65 h66 h67 => ?_)
    refine zK_aI rfl rfl T63 h65 h66 h67 ?_
    refine zK_op rfl rfl ?_
    refine zK_icne rfl (fun _ => ?_) (fun _ => ?_)
    · refine zK_op rfl rfl ?_
      refine zK_op rfl rfl ?_
      exact zD167_157_ok hd 1 _ _ _ _ m62 T63
    refine zK_op rfl rfl ?_
    exact zD167_157_ok hd 0 _ _ _ _ m62 T63
  refine zK_op rfl rfl ?_
  refine zK_ifeq rfl (fun _ => ?_) (fun _ => ?_)
  · exact zD167_79_ok hd hc58 v1 v3 v4 _ μ hT
  refine zK_op rfl rfl ?_
  refine zK_gRl (b := 218) rfl rfl rfl hT ?_
  refine zK_op rfl rfl ?_
  refine zK_x (fun j76 h77 h78 h79 => ?_)
  refine zK_aI rfl rfl hT h77 h78 h79 ?_
  refine zK_op rfl rfl ?_
  refine zK_icne rfl (fun _ => ?_) (fun _ => ?_)
  · refine zK_op rfl rfl ?_
    refine zK_op rfl rfl ?_
    refine zK_gRl (b := 221) rfl rfl rfl hT ?_
    refine zK_op rfl rfl ?_
    refine zK_x (fun j80 h81 h82 h83 => ?_)
    refine zK_aI rfl rfl hT h81 h82 h83 ?_
    refine zK_dv (fun h84 => ?_)
    refine zK_i2d rfl h84 ?_
    refine zK_ifne rfl (fun _ => ?_) (fun _ => ?_)
    · exact zD167_77_ok hd hc58 v1 v3 v4 _ μ hT
    exact zD167_79_ok hd hc58 v1 v3 v4 _ μ hT
  exact zD167_77_ok hd hc58 v1 v3 v4 _ μ hT
theorem zD167_58_ok {μ0 : xe_Mem} {δ : xe_Dy} {d : Nat} (hd : 4 ≤ d)  : ∀ n : Nat, ∀ (v1 : Int32) (v2 : Int32) (v3 : Int32) (v4 : Int32) (μ : xe_Mem), zT zPr μ0 μ → zK zPr μ0 δ d 167 58 [some (.ref 203), some (.int v1), some (.int v2), some (.int v3), some (.int v4)] [] μ (zD167_58  n v1 v2 v3 v4 μ) := by
  intro n
  induction n with
  | zero => exact fun _ _ _ _ _ _  => fun o μ' h => by cases h
  | succ n ih => exact zD167_58_bok hd   ih
theorem zD167_55_ok {μ0 : xe_Mem} {δ : xe_Dy} {d : Nat} (hd : 4 ≤ d)  : ∀ (v1 : Int32) (v2 : Int32) (s0 : Int32) (μ : xe_Mem), zT zPr μ0 μ → zK zPr μ0 δ d 167 55 [some (.ref 203), some (.int v1), some (.int v2), none, none] [.int s0] μ (zD167_55  v1 v2 s0 μ) := by
  intro v1 v2 s0 μ hT
  unfold zD167_55
  refine zK_op rfl rfl ?_
  refine zK_op rfl rfl ?_
  refine zK_op rfl rfl ?_
  exact zD167_58_ok hd zfu v1 v2 s0 0 μ hT
theorem zD167_38_ok {μ0 : xe_Mem} {δ : xe_Dy} {d : Nat} (hd : 4 ≤ d)  : ∀ (v1 : Int32) (s0 : Int32) (μ : xe_Mem), zT zPr μ0 μ → zK zPr μ0 δ d 167 38 [some (.ref 203), some (.int v1), none, none, none] [.int s0] μ (zD167_38  v1 s0 μ) := by
  intro v1 s0 μ hT
  unfold zD167_38
  refine zK_op rfl rfl ?_
  refine zK_op rfl rfl ?_
  refine zK_ifeq rfl (fun _ => ?_) (fun _ => ?_)
  · refine zK_op rfl rfl ?_
    exact zD167_55_ok hd v1 s0 1 μ hT
  refine zK_op rfl rfl ?_
  refine zK_gRl (b := 214) rfl rfl rfl hT ?_
  refine zK_op rfl rfl ?_
  refine zK_x (fun j85 h86 h87 h88 => ?_)
  refine zK_aI rfl rfl hT h86 h87 h88 ?_
  refine zK_op rfl rfl ?_
  refine zK_op rfl rfl ?_
  refine zK_gRl (b := 209) rfl rfl rfl hT ?_
  refine zK_op rfl rfl ?_
  refine zK_gI rfl rfl hT ?_
  refine zK_x (fun j89 h90 h91 h92 => ?_)
  refine zK_aL rfl rfl hT h90 h91 h92 ?_
  refine zK_dvL (fun h93 => ?_)
  refine zK_l2d rfl h93 ?_
  refine zK_op rfl rfl ?_
  refine zK_op rfl rfl ?_
  exact zD167_55_ok hd v1 s0 ((((xe_I μ 214 j85).toInt64) / (xe_L μ 209 j89)).toInt32) μ hT
theorem zD167_37_ok {μ0 : xe_Mem} {δ : xe_Dy} {d : Nat} (hd : 4 ≤ d)  : ∀ (v1 : Int32) (μ : xe_Mem), zT zPr μ0 μ → zK zPr μ0 δ d 167 37 [some (.ref 203), some (.int v1), none, none, none] [] μ (zD167_37  v1 μ) := by
  intro v1 μ hT
  unfold zD167_37
  refine zK_op rfl rfl ?_
  exact zD167_38_ok hd v1 0 μ hT
theorem zD167_ok {μ0 : xe_Mem} {δ : xe_Dy} {d : Nat} (hd : 4 ≤ d) (a1 : Int32) (μ : xe_Mem) (hT : zT zPr μ0 μ) : zK zPr μ0 δ d 167 0 (xe_init [.ref 203, .int a1] (xM_L 167)) [] μ (zD167 a1 μ) := by
  unfold zD167
  show zK zPr μ0 δ d 167 0 [some (.ref 203), some (.int a1), none, none, none] [] μ _
  refine zK_op rfl rfl ?_
  refine zK_op rfl rfl ?_
  refine zK_gI rfl rfl hT ?_
  refine zK_op rfl rfl ?_
  refine zK_op rfl rfl ?_
  refine zK_pI rfl rfl hT rfl (fun m1 T2 => ?_)
  refine zK_op rfl rfl ?_
  refine zK_gRl (b := 207) rfl rfl rfl T2 ?_
  refine zK_op rfl rfl ?_
  refine zK_gI rfl rfl T2 ?_
  refine zK_x (fun j3 h4 h5 h6 => ?_)
  refine zK_aI rfl rfl T2 h4 h5 h6 ?_
  refine zK_op rfl rfl ?_
  refine zK_icne rfl (fun _ => ?_) (fun _ => ?_)
  · refine zK_op rfl rfl ?_
    refine zK_gRl (b := 209) rfl rfl rfl T2 ?_
    refine zK_op rfl rfl ?_
    refine zK_gI rfl rfl T2 ?_
    refine zK_x (fun j7 h8 h9 h10 => ?_)
    refine zK_aL rfl rfl T2 h8 h9 h10 ?_
    refine zK_op rfl rfl ?_
    refine zK_op rfl rfl ?_
    refine zK_ifle rfl (fun _ => ?_) (fun _ => ?_)
    · exact zD167_37_ok hd a1 m1 T2
    refine zK_op rfl rfl ?_
    refine zK_gRl (b := 214) rfl rfl rfl T2 ?_
    refine zK_op rfl rfl ?_
    refine zK_x (fun j94 h95 h96 h97 => ?_)
    refine zK_aI rfl rfl T2 h95 h96 h97 ?_
    refine zK_op rfl rfl ?_
    refine zK_op rfl rfl ?_
    refine zK_gRl (b := 209) rfl rfl rfl T2 ?_
    refine zK_op rfl rfl ?_
    refine zK_gI rfl rfl T2 ?_
    refine zK_x (fun j98 h99 h100 h101 => ?_)
    refine zK_aL rfl rfl T2 h99 h100 h101 ?_
    refine zK_dvL (fun h102 => ?_)
    refine zK_l2d rfl h102 ?_
    refine zK_op rfl rfl ?_
    refine zK_op rfl rfl ?_
    refine zK_ifne rfl (fun _ => ?_) (fun _ => ?_)
    · refine zK_op rfl rfl ?_
      refine zK_op rfl rfl ?_
      exact zD167_38_ok hd a1 1 m1 T2
    exact zD167_37_ok hd a1 m1 T2
  exact zD167_37_ok hd a1 m1 T2
