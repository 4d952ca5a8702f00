/-! methods as functions (by wip/whole/gen/dec.py) -/
/-! 191 LogicalTimesModel.two(III)I -/
def zD191_29 (s0 : Int32) (μ : xe_Mem) : zO := some (.inl (some (.int s0)), μ)
def zD191_21 (s0 : Int32) (μ : xe_Mem) : zO := some (.inl (some (.int s0)), μ)
def zD191_36 (s0 : Int32) (μ : xe_Mem) : zO := some (.inl (some (.int s0)), μ)
def zD191_43 (s0 : Int32) (μ : xe_Mem) : zO := some (.inl (some (.int s0)), μ)
def zD191  (a0 : Int32) (a1 : Int32) (a2 : Int32) (μ : xe_Mem) : zO := if a0 = 37 then if a2 = 0 then zD191_29 0 μ else zq_d a2 <| zD191_29 (a1 - a1 / a2 * a2) μ else if a0 = 42 then some (.inl (some (.int (a1 * a2))), μ) else if a0 = 43 then some (.inl (some (.int (a1 + a2))), μ) else if a0 = 45 then some (.inl (some (.int (a1 - a2))), μ) else if a0 = 47 then if a2 = 0 then zD191_21 0 μ else zq_d a2 <| zD191_21 (a1 / a2) μ else if a0 = 60 then if a2 ≤ a1 then zD191_36 0 μ else zD191_36 1 μ else if a1 ≤ a2 then zD191_43 0 μ else zD191_43 1 μ
theorem zt_sw191_1 {x : Int32} {ls : xe_Ls} {r : List Value} {μ : xe_Mem} (h0 : ¬ x = 37) (h1 : ¬ x = 42) (h2 : ¬ x = 43) (h3 : ¬ x = 45) (h4 : ¬ x = 47) (h5 : ¬ x = 60) : xe_lsw [(37, 22), (42, 10), (43, 2), (45, 6), (47, 14), (60, 30)] 37 1 ls (.int x :: r) μ = some (37, ls, r, μ) := by
  have a0 := zt_ne (37) (v := 37) (by decide) h0
  have a1 := zt_ne (42) (v := 42) (by decide) h1
  have a2 := zt_ne (43) (v := 43) (by decide) h2
  have a3 := zt_ne (45) (v := 45) (by decide) h3
  have a4 := zt_ne (47) (v := 47) (by decide) h4
  have a5 := zt_ne (60) (v := 60) (by decide) h5
  show some (_, ls, r, μ) = _
  simp only [List.find?, beq_iff_eq, Ne.symm, show ((37 : Int) == x.toInt) = false from beq_false_of_ne (Ne.symm a0), show ((42 : Int) == x.toInt) = false from beq_false_of_ne (Ne.symm a1), show ((43 : Int) == x.toInt) = false from beq_false_of_ne (Ne.symm a2), show ((45 : Int) == x.toInt) = false from beq_false_of_ne (Ne.symm a3), show ((47 : Int) == x.toInt) = false from beq_false_of_ne (Ne.symm a4), show ((60 : Int) == x.toInt) = false from beq_false_of_ne (Ne.symm a5)]
  rfl
theorem zD191_29_ok {μ0 : xe_Mem} {δ : xe_Dy} {d : Nat} (hd : 0 ≤ d)  : ∀ (s0 : Int32) (l0 : Option Value) (l1 : Option Value) (l2 : Option Value) (μ : xe_Mem), zT zPr μ0 μ → zK zPr μ0 δ d 191 29 [l0, l1, l2] [.int s0] μ (zD191_29  s0 μ) := by
  intro s0 l0 l1 l2 μ hT
  unfold zD191_29
  exact zK_ret1 rfl hT
theorem zD191_21_ok {μ0 : xe_Mem} {δ : xe_Dy} {d : Nat} (hd : 0 ≤ d)  : ∀ (s0 : Int32) (l0 : Option Value) (l1 : Option Value) (l2 : Option Value) (μ : xe_Mem), zT zPr μ0 μ → zK zPr μ0 δ d 191 21 [l0, l1, l2] [.int s0] μ (zD191_21  s0 μ) := by
  intro s0 l0 l1 l2 μ hT
  unfold zD191_21
  exact zK_ret1 rfl hT
theorem zD191_36_ok {μ0 : xe_Mem} {δ : xe_Dy} {d : Nat} (hd : 0 ≤ d)  : ∀ (s0 : Int32) (l0 : Option Value) (l1 : Option Value) (l2 : Option Value) (μ : xe_Mem), zT zPr μ0 μ → zK zPr μ0 δ d 191 36 [l0, l1, l2] [.int s0] μ (zD191_36  s0 μ) := by
  intro s0 l0 l1 l2 μ hT
  unfold zD191_36
  exact zK_ret1 rfl hT
theorem zD191_43_ok {μ0 : xe_Mem} {δ : xe_Dy} {d : Nat} (hd : 0 ≤ d)  : ∀ (s0 : Int32) (l0 : Option Value) (l1 : Option Value) (l2 : Option Value) (μ : xe_Mem), zT zPr μ0 μ → zK zPr μ0 δ d 191 43 [l0, l1, l2] [.int s0] μ (zD191_43  s0 μ) := by
  intro s0 l0 l1 l2 μ hT
  unfold zD191_43
  exact zK_ret1 rfl hT
theorem zD191_ok {μ0 : xe_Mem} {δ : xe_Dy} {d : Nat} (hd : 0 ≤ d) (a0 : Int32) (a1 : Int32) (a2 : Int32) (μ : xe_Mem) (hT : zT zPr μ0 μ) : zK zPr μ0 δ d 191 0 (xe_init [.int a0, .int a1, .int a2] (xM_L 191)) [] μ (zD191 a0 a1 a2 μ) := by
  unfold zD191
  show zK zPr μ0 δ d 191 0 [some (.int a0), some (.int a1), some (.int a2)] [] μ _
  refine zK_op rfl rfl ?_
  refine zK_ite (fun h1 => ?_) (fun h1 => ?_)
  · rw [h1]
    refine zK_op (k' := 22) rfl (by rfl) ?_
    refine zK_op rfl rfl ?_
    refine zK_ifne rfl (fun _ => ?_) (fun _ => ?_)
    · refine zK_op rfl rfl ?_
      refine zK_op rfl rfl ?_
      exact zD191_29_ok hd 0 _ _ _ μ hT
    refine zK_op rfl rfl ?_
    refine zK_op rfl rfl ?_
    refine zK_dv (fun h2 => ?_)
    refine zK_i2d rfl h2 ?_
    exact zD191_29_ok hd (a1 - a1 / a2 * a2) _ _ _ μ hT
  refine zK_ite (fun h3 => ?_) (fun h3 => ?_)
  · rw [h3]
    refine zK_op (k' := 10) rfl (by rfl) ?_
    refine zK_op rfl rfl ?_
    refine zK_op rfl rfl ?_
    refine zK_op rfl rfl ?_
    exact zK_ret1 rfl hT
  refine zK_ite (fun h4 => ?_) (fun h4 => ?_)
  · rw [h4]
    refine zK_op (k' := 2) rfl (by rfl) ?_
    refine zK_op rfl rfl ?_
    refine zK_op rfl rfl ?_
    refine zK_op rfl rfl ?_
    exact zK_ret1 rfl hT
  refine zK_ite (fun h5 => ?_) (fun h5 => ?_)
  · rw [h5]
    refine zK_op (k' := 6) rfl (by rfl) ?_
    refine zK_op rfl rfl ?_
    refine zK_op rfl rfl ?_
    refine zK_op rfl rfl ?_
    exact zK_ret1 rfl hT
  refine zK_ite (fun h6 => ?_) (fun h6 => ?_)
  · rw [h6]
    refine zK_op (k' := 14) rfl (by rfl) ?_
    refine zK_op rfl rfl ?_
    refine zK_ifne rfl (fun _ => ?_) (fun _ => ?_)
    · refine zK_op rfl rfl ?_
      refine zK_op rfl rfl ?_
      exact zD191_21_ok hd 0 _ _ _ μ hT
    refine zK_op rfl rfl ?_
    refine zK_op rfl rfl ?_
    refine zK_dv (fun h7 => ?_)
    refine zK_i2d rfl h7 ?_
    exact zD191_21_ok hd (a1 / a2) _ _ _ μ hT
  refine zK_ite (fun h8 => ?_) (fun h8 => ?_)
  · rw [h8]
    refine zK_op (k' := 30) rfl (by rfl) ?_
    refine zK_op rfl rfl ?_
    refine zK_op rfl rfl ?_
    refine zK_icge rfl (fun _ => ?_) (fun _ => ?_)
    · refine zK_op rfl rfl ?_
      exact zD191_36_ok hd 0 _ _ _ μ hT
    refine zK_op rfl rfl ?_
    refine zK_op rfl rfl ?_
    exact zD191_36_ok hd 1 _ _ _ μ hT
  refine zK_op (k' := 37) rfl (zt_sw191_1 h1 h3 h4 h5 h6 h8) ?_
  refine zK_op rfl rfl ?_
  refine zK_op rfl rfl ?_
  refine zK_icle rfl (fun _ => ?_) (fun _ => ?_)
  · refine zK_op rfl rfl ?_
    exact zD191_43_ok hd 0 _ _ _ μ hT
  refine zK_op rfl rfl ?_
  refine zK_op rfl rfl ?_
  exact zD191_43_ok hd 1 _ _ _ μ hT
/-! 190 LogicalTimesModel.run(I)I -/
def zD190_221 (s0 : Int32) (μ : xe_Mem) : zO := some (.inl (some (.int s0)), μ)
def zD190_212 (c33 : Int32 → Int32 → Int32 → Int32 → xe_Mem → zO) (v1 : Int32) (v2 : Int32) (v3 : Int32) (v4 : Int32) (μ : xe_Mem) : zO := c33 v1 v2 v3 v4 μ
def zD190_90 (c33 : Int32 → Int32 → Int32 → Int32 → xe_Mem → zO) (v1 : Int32) (v2 : Int32) (v3 : Int32) (v4 : Int32) (s1 : Int32) (s2 : Int32) (μ : xe_Mem) : zO := zq_x s1 70 fun j15 => zq_m (xe_setI μ 253 j15 s2) fun m19 => zD190_212 c33 v1 (v2 + (1)) v3 v4 m19
def zD190_62 (c33 : Int32 → Int32 → Int32 → Int32 → xe_Mem → zO) (v1 : Int32) (v2 : Int32) (v3 : Int32) (v4 : Int32) (v5 : Int32) (v6 : Int32) (μ : xe_Mem) : zO := if v6 = 1 then zD190_90 c33 v1 v2 v3 v4 v2 v5 μ else if v6 = 2 then zq_x v5 12 fun j21 => zD190_90 c33 v1 v2 v3 v4 v2 (xe_I μ 250 j21) μ else if v6 = 3 then zq_x v5 4 fun j25 => zD190_90 c33 v1 v2 v3 v4 v2 (xe_I μ 257 j25) μ else zq_x v5 6 fun j29 => zD190_90 c33 v1 v2 v3 v4 v2 (xe_I μ 251 j29) μ
def zD190_139 (c33 : Int32 → Int32 → Int32 → Int32 → xe_Mem → zO) (v1 : Int32) (v2 : Int32) (v3 : Int32) (v4 : Int32) (v5 : Int32) (v6 : Int32) (μ : xe_Mem) : zO := if v6 = 7 then zq_x (v2 + (-1)) 70 fun j60 => zq_x v5 12 fun j64 => zq_m (xe_setI μ 252 j64 (xe_I μ 253 j60)) fun m68 => zD190_212 c33 v1 (v2 + (-1)) v3 v4 m68 else zq_x (v2 + (-1)) 70 fun j70 => zq_x v5 6 fun j74 => zq_m (xe_setI μ 251 j74 (xe_I μ 253 j70)) fun m78 => zD190_212 c33 v1 (v2 + (-1)) v3 v4 m78
def zD190_173 (c33 : Int32 → Int32 → Int32 → Int32 → xe_Mem → zO) (v1 : Int32) (v2 : Int32) (v3 : Int32) (s0 : Int32) (μ : xe_Mem) : zO := zD190_212 c33 v1 v2 v3 s0 μ
def zD190_33_b (c33 : Int32 → Int32 → Int32 → Int32 → xe_Mem → zO) (v1 : Int32) (v2 : Int32) (v3 : Int32) (v4 : Int32) (μ : xe_Mem) : zO := zq_x v4 6000 fun j1 => if (xe_I μ 239 j1) = 13 then if v2 ≤ 0 then zD190_221 0 μ else zD190_221 (xe_I μ 253 0) μ else zq_x v4 6000 fun j5 => zq_vI (xe_I μ 240 j5) fun x9 => zq_x v4 6000 fun j10 => zq_vI (xe_I μ 239 j10) fun x14 => if x14 = 1 then zD190_62 c33 v1 v2 v3 (v4 + (1)) x9 x14 μ else if x14 = 2 then zD190_62 c33 v1 v2 v3 (v4 + (1)) x9 x14 μ else if x14 = 3 then zD190_62 c33 v1 v2 v3 (v4 + (1)) x9 x14 μ else if x14 = 4 then zD190_62 c33 v1 v2 v3 (v4 + (1)) x9 x14 μ else if x14 = 5 then zq_x (v2 - 1) 70 fun j33 => zq_x (v2 - 1) 70 fun j37 => zq_m (xe_setI μ 253 j37 (-(xe_I μ 253 j33))) fun m41 => zD190_212 c33 v1 v2 v3 (v4 + (1)) m41 else if x14 = 6 then zq_x ((v2 + (-1)) - 1) 70 fun j43 => zq_x (v2 + (-1)) 70 fun j47 => zq_cI (zD191 x9 (xe_I μ 253 j43) (xe_I μ 253 j47) μ) fun x53 m51 => zq_x ((v2 + (-1)) - 1) 70 fun j54 => zq_m (xe_setI m51 253 j54 x53) fun m58 => zD190_212 c33 v1 (v2 + (-1)) v3 (v4 + (1)) m58 else if x14 = 7 then zD190_139 c33 v1 v2 v3 (v4 + (1)) x9 x14 μ else if x14 = 8 then zD190_139 c33 v1 v2 v3 (v4 + (1)) x9 x14 μ else if x14 = 9 then zq_x (v2 + (-1)) 70 fun j80 => if (xe_I μ 253 j80) = 0 then zD190_173 c33 v1 (v2 + (-1)) v3 x9 μ else zD190_173 c33 v1 (v2 + (-1)) v3 (v4 + (1)) μ else if x14 = 10 then zD190_212 c33 v1 v2 v3 x9 μ else if x14 = 11 then zq_x v3 10 fun j84 => zq_m (xe_setI μ 254 j84 x9) fun m88 => zD190_212 c33 v1 v2 (v3 + (1)) (v4 + (1)) m88 else zq_x (v3 - 1) 10 fun j90 => zq_x (v3 - 1) 10 fun j94 => zq_m (xe_setI μ 254 j94 ((xe_I μ 254 j90) - 1)) fun m98 => zq_x (v3 - 1) 10 fun j100 => if (xe_I m98 254 j100) ≤ 0 then zD190_212 c33 v1 v2 (v3 + (-1)) (v4 + (1)) m98 else zD190_212 c33 v1 v2 v3 x9 m98
def zD190_33   : Nat → Int32 → Int32 → Int32 → Int32 → xe_Mem → zO
  | 0 => fun _ _ _ _ _  => none
  | n + 1 => zD190_33_b   (zD190_33   n)
def zD190_17_b (c17 : Int32 → Int32 → xe_Mem → zO) (v1 : Int32) (v2 : Int32) (μ : xe_Mem) : zO := if 6 ≤ v2 then zD190_33 zfu v1 0 0 v1 μ else zq_x v2 6 fun j104 => zq_m (xe_setI μ 251 j104 0) fun m108 => c17 v1 (v2 + (1)) m108
def zD190_17   : Nat → Int32 → Int32 → xe_Mem → zO
  | 0 => fun _ _ _  => none
  | n + 1 => zD190_17_b   (zD190_17   n)
def zD190_2_b (c2 : Int32 → Int32 → xe_Mem → zO) (v1 : Int32) (v2 : Int32) (μ : xe_Mem) : zO := if 12 ≤ v2 then zD190_17 zfu v1 0 μ else zq_x v2 12 fun j110 => zq_x v2 12 fun j114 => zq_m (xe_setI μ 252 j114 (xe_I μ 250 j110)) fun m118 => c2 v1 (v2 + (1)) m118
def zD190_2   : Nat → Int32 → Int32 → xe_Mem → zO
  | 0 => fun _ _ _  => none
  | n + 1 => zD190_2_b   (zD190_2   n)
def zD190  (a1 : Int32) (μ : xe_Mem) : zO := zD190_2 zfu a1 0 μ
theorem zD190_221_ok {μ0 : xe_Mem} {δ : xe_Dy} {d : Nat} (hd : 1 ≤ d)  : ∀ (s0 : Int32) (l0 : Option Value) (l1 : Option Value) (l2 : Option Value) (l3 : Option Value) (l4 : Option Value) (l5 : Option Value) (l6 : Option Value) (μ : xe_Mem), zT zPr μ0 μ → zK zPr μ0 δ d 190 221 [l0, l1, l2, l3, l4, l5, l6] [.int s0] μ (zD190_221  s0 μ) := by
  intro s0 l0 l1 l2 l3 l4 l5 l6 μ hT
  unfold zD190_221
  exact zK_ret1 rfl hT
theorem zD190_212_ok {μ0 : xe_Mem} {δ : xe_Dy} {d : Nat} (hd : 1 ≤ d) {c33 : Int32 → Int32 → Int32 → Int32 → xe_Mem → zO} (hc33 : ∀ (v1 : Int32) (v2 : Int32) (v3 : Int32) (v4 : Int32) (l5 : Option Value) (l6 : Option Value) (μ : xe_Mem), zT zPr μ0 μ → zK zPr μ0 δ d 190 33 [some (.ref 203), some (.int v1), some (.int v2), some (.int v3), some (.int v4), l5, l6] [] μ (c33 v1 v2 v3 v4 μ)) : ∀ (v1 : Int32) (v2 : Int32) (v3 : Int32) (v4 : Int32) (l5 : Option Value) (l6 : Option Value) (μ : xe_Mem), zT zPr μ0 μ → zK zPr μ0 δ d 190 212 [some (.ref 203), some (.int v1), some (.int v2), some (.int v3), some (.int v4), l5, l6] [] μ (zD190_212  c33 v1 v2 v3 v4 μ) := by
  intro v1 v2 v3 v4 l5 l6 μ hT
  unfold zD190_212
  refine zK_op rfl rfl ?_
  exact hc33 v1 v2 v3 v4 _ _ μ hT
theorem zD190_90_ok {μ0 : xe_Mem} {δ : xe_Dy} {d : Nat} (hd : 1 ≤ d) {c33 : Int32 → Int32 → Int32 → Int32 → xe_Mem → zO} (hc33 : ∀ (v1 : Int32) (v2 : Int32) (v3 : Int32) (v4 : Int32) (l5 : Option Value) (l6 : Option Value) (μ : xe_Mem), zT zPr μ0 μ → zK zPr μ0 δ d 190 33 [some (.ref 203), some (.int v1), some (.int v2), some (.int v3), some (.int v4), l5, l6] [] μ (c33 v1 v2 v3 v4 μ)) : ∀ (v1 : Int32) (v2 : Int32) (v3 : Int32) (v4 : Int32) (s1 : Int32) (s2 : Int32) (l5 : Option Value) (l6 : Option Value) (μ : xe_Mem), zT zPr μ0 μ → zK zPr μ0 δ d 190 90 [some (.ref 203), some (.int v1), some (.int v2), some (.int v3), some (.int v4), l5, l6] [.int s2, .int s1, .ref 253] μ (zD190_90  c33 v1 v2 v3 v4 s1 s2 μ) := by
  intro v1 v2 v3 v4 s1 s2 l5 l6 μ hT
  unfold zD190_90
  refine zK_x (fun j15 h16 h17 h18 => ?_)
  refine zK_sI (a := 253) (g := (fun x => x)) rfl rfl hT h16 h17 h18 rfl (fun m19 T20 => ?_)
  refine zK_op rfl rfl ?_
  refine zK_op rfl rfl ?_
  exact zD190_212_ok hd hc33 v1 (v2 + (1)) v3 v4 _ _ m19 T20
theorem zD190_62_ok {μ0 : xe_Mem} {δ : xe_Dy} {d : Nat} (hd : 1 ≤ d) {c33 : Int32 → Int32 → Int32 → Int32 → xe_Mem → zO} (hc33 : ∀ (v1 : Int32) (v2 : Int32) (v3 : Int32) (v4 : Int32) (l5 : Option Value) (l6 : Option Value) (μ : xe_Mem), zT zPr μ0 μ → zK zPr μ0 δ d 190 33 [some (.ref 203), some (.int v1), some (.int v2), some (.int v3), some (.int v4), l5, l6] [] μ (c33 v1 v2 v3 v4 μ)) : ∀ (v1 : Int32) (v2 : Int32) (v3 : Int32) (v4 : Int32) (v5 : Int32) (v6 : Int32) (μ : xe_Mem), zT zPr μ0 μ → zK zPr μ0 δ d 190 62 [some (.ref 203), some (.int v1), some (.int v2), some (.int v3), some (.int v4), some (.int v5), some (.int v6)] [] μ (zD190_62  c33 v1 v2 v3 v4 v5 v6 μ) := by
  intro v1 v2 v3 v4 v5 v6 μ hT
  unfold zD190_62
  refine zK_op rfl rfl ?_
  refine zK_gRl (b := 253) rfl rfl rfl hT ?_
  refine zK_op rfl rfl ?_
  refine zK_op rfl rfl ?_
  refine zK_op rfl rfl ?_
  refine zK_icne rfl (fun _ => ?_) (fun _ => ?_)
  · refine zK_op rfl rfl ?_
    refine zK_op rfl rfl ?_
    exact zD190_90_ok hd hc33 v1 v2 v3 v4 v2 v5 _ _ μ hT
  refine zK_op rfl rfl ?_
  refine zK_op rfl rfl ?_
  refine zK_icne rfl (fun _ => ?_) (fun _ => ?_)
  · refine zK_op rfl rfl ?_
    refine zK_gRl (b := 250) rfl rfl rfl hT ?_
    refine zK_op rfl rfl ?_
    refine zK_x (fun j21 h22 h23 h24 => ?_)
    refine zK_aI rfl rfl hT h22 h23 h24 ?_
    refine zK_op rfl rfl ?_
    exact zD190_90_ok hd hc33 v1 v2 v3 v4 v2 (xe_I μ 250 j21) _ _ μ hT
  refine zK_op rfl rfl ?_
  refine zK_op rfl rfl ?_
  refine zK_icne rfl (fun _ => ?_) (fun _ => ?_)
  · refine zK_op rfl rfl ?_
    refine zK_gRl (b := 257) rfl rfl rfl hT ?_
    refine zK_op rfl rfl ?_
    refine zK_x (fun j25 h26 h27 h28 => ?_)
    refine zK_aI rfl rfl hT h26 h27 h28 ?_
    refine zK_op rfl rfl ?_
    exact zD190_90_ok hd hc33 v1 v2 v3 v4 v2 (xe_I μ 257 j25) _ _ μ hT
  refine zK_op rfl rfl ?_
  refine zK_gRl (b := 251) rfl rfl rfl hT ?_
  refine zK_op rfl rfl ?_
  refine zK_x (fun j29 h30 h31 h32 => ?_)
  refine zK_aI rfl rfl hT h30 h31 h32 ?_
  exact zD190_90_ok hd hc33 v1 v2 v3 v4 v2 (xe_I μ 251 j29) _ _ μ hT
theorem zD190_139_ok {μ0 : xe_Mem} {δ : xe_Dy} {d : Nat} (hd : 1 ≤ d) {c33 : Int32 → Int32 → Int32 → Int32 → xe_Mem → zO} (hc33 : ∀ (v1 : Int32) (v2 : Int32) (v3 : Int32) (v4 : Int32) (l5 : Option Value) (l6 : Option Value) (μ : xe_Mem), zT zPr μ0 μ → zK zPr μ0 δ d 190 33 [some (.ref 203), some (.int v1), some (.int v2), some (.int v3), some (.int v4), l5, l6] [] μ (c33 v1 v2 v3 v4 μ)) : ∀ (v1 : Int32) (v2 : Int32) (v3 : Int32) (v4 : Int32) (v5 : Int32) (v6 : Int32) (μ : xe_Mem), zT zPr μ0 μ → zK zPr μ0 δ d 190 139 [some (.ref 203), some (.int v1), some (.int v2), some (.int v3), some (.int v4), some (.int v5), some (.int v6)] [] μ (zD190_139  c33 v1 v2 v3 v4 v5 v6 μ) := by
  intro v1 v2 v3 v4 v5 v6 μ hT
  unfold zD190_139
  refine zK_op rfl rfl ?_
  refine zK_op rfl rfl ?_
  refine zK_op rfl rfl ?_
  refine zK_icne rfl (fun _ => ?_) (fun _ => ?_)
  · refine zK_op rfl rfl ?_
    refine zK_gRl (b := 252) rfl rfl rfl hT ?_
    refine zK_op rfl rfl ?_
    refine zK_op rfl rfl ?_
    refine zK_gRl (b := 253) rfl rfl rfl hT ?_
    refine zK_op rfl rfl ?_
    refine zK_x (fun j60 h61 h62 h63 => ?_)
    refine zK_aI rfl rfl hT h61 h62 h63 ?_
    refine zK_x (fun j64 h65 h66 h67 => ?_)
    refine zK_sI (a := 252) (g := (fun x => x)) rfl rfl hT h65 h66 h67 rfl (fun m68 T69 => ?_)
    refine zK_op rfl rfl ?_
    exact zD190_212_ok hd hc33 v1 (v2 + (-1)) v3 v4 _ _ m68 T69
  refine zK_op rfl rfl ?_
  refine zK_gRl (b := 251) rfl rfl rfl hT ?_
  refine zK_op rfl rfl ?_
  refine zK_op rfl rfl ?_
  refine zK_gRl (b := 253) rfl rfl rfl hT ?_
  refine zK_op rfl rfl ?_
  refine zK_x (fun j70 h71 h72 h73 => ?_)
  refine zK_aI rfl rfl hT h71 h72 h73 ?_
  refine zK_x (fun j74 h75 h76 h77 => ?_)
  refine zK_sI (a := 251) (g := (fun x => x)) rfl rfl hT h75 h76 h77 rfl (fun m78 T79 => ?_)
  refine zK_op rfl rfl ?_
  exact zD190_212_ok hd hc33 v1 (v2 + (-1)) v3 v4 _ _ m78 T79
theorem zD190_173_ok {μ0 : xe_Mem} {δ : xe_Dy} {d : Nat} (hd : 1 ≤ d) {c33 : Int32 → Int32 → Int32 → Int32 → xe_Mem → zO} (hc33 : ∀ (v1 : Int32) (v2 : Int32) (v3 : Int32) (v4 : Int32) (l5 : Option Value) (l6 : Option Value) (μ : xe_Mem), zT zPr μ0 μ → zK zPr μ0 δ d 190 33 [some (.ref 203), some (.int v1), some (.int v2), some (.int v3), some (.int v4), l5, l6] [] μ (c33 v1 v2 v3 v4 μ)) : ∀ (v1 : Int32) (v2 : Int32) (v3 : Int32) (s0 : Int32) (l4 : Option Value) (l5 : Option Value) (l6 : Option Value) (μ : xe_Mem), zT zPr μ0 μ → zK zPr μ0 δ d 190 173 [some (.ref 203), some (.int v1), some (.int v2), some (.int v3), l4, l5, l6] [.int s0] μ (zD190_173  c33 v1 v2 v3 s0 μ) := by
  intro v1 v2 v3 s0 l4 l5 l6 μ hT
  unfold zD190_173
  refine zK_op rfl rfl ?_
  refine zK_op rfl rfl ?_
  exact zD190_212_ok hd hc33 v1 v2 v3 s0 _ _ μ hT
theorem zD190_33_bok {μ0 : xe_Mem} {δ : xe_Dy} {d : Nat} (hd : 1 ≤ d)  {c33 : Int32 → Int32 → Int32 → Int32 → xe_Mem → zO} (hc33 : ∀ (v1 : Int32) (v2 : Int32) (v3 : Int32) (v4 : Int32) (l5 : Option Value) (l6 : Option Value) (μ : xe_Mem), zT zPr μ0 μ → zK zPr μ0 δ d 190 33 [some (.ref 203), some (.int v1), some (.int v2), some (.int v3), some (.int v4), l5, l6] [] μ (c33 v1 v2 v3 v4 μ)) : ∀ (v1 : Int32) (v2 : Int32) (v3 : Int32) (v4 : Int32) (l5 : Option Value) (l6 : Option Value) (μ : xe_Mem), zT zPr μ0 μ → zK zPr μ0 δ d 190 33 [some (.ref 203), some (.int v1), some (.int v2), some (.int v3), some (.int v4), l5, l6] [] μ (zD190_33_b  c33 v1 v2 v3 v4 μ) := by
  intro v1 v2 v3 v4 l5 l6 μ hT
  unfold zD190_33_b
  refine zK_op rfl rfl ?_
  refine zK_gRl (b := 239) rfl rfl rfl hT ?_
  refine zK_op rfl rfl ?_
  refine zK_x (fun j1 h2 h3 h4 => ?_)
  refine zK_aI rfl rfl hT h2 h3 h4 ?_
  refine zK_op rfl rfl ?_
  refine zK_iceq rfl (fun _ => ?_) (fun _ => ?_)
  · refine zK_op rfl rfl ?_
    refine zK_ifle rfl (fun _ => ?_) (fun _ => ?_)
    · refine zK_op rfl rfl ?_
      exact zD190_221_ok hd 0 _ _ _ _ _ _ _ μ hT
    refine zK_op rfl rfl ?_
    refine zK_gRl (b := 253) rfl rfl rfl hT ?_
    refine zK_op rfl rfl ?_
    refine zK_aI rfl rfl hT rfl (by decide) (by decide) ?_
    refine zK_op rfl rfl ?_
    exact zD190_221_ok hd (xe_I μ 253 0) _ _ _ _ _ _ _ μ hT
  refine zK_op rfl rfl ?_
  refine zK_gRl (b := 240) rfl rfl rfl hT ?_
  refine zK_op rfl rfl ?_
  refine zK_x (fun j5 h6 h7 h8 => ?_)
  refine zK_aI rfl rfl hT h6 h7 h8 ?_
  refine zK_vI (fun x9 => ?_)
  refine zK_op rfl rfl ?_
  refine zK_op rfl rfl ?_
  refine zK_gRl (b := 239) rfl rfl rfl hT ?_
  refine zK_op rfl rfl ?_
  refine zK_x (fun j10 h11 h12 h13 => ?_)
  refine zK_aI rfl rfl hT h11 h12 h13 ?_
  refine zK_vI (fun x14 => ?_)
  refine zK_op rfl rfl ?_
  refine zK_op rfl rfl ?_
  refine zK_op rfl rfl ?_
  refine zK_op rfl rfl ?_
  refine zK_iceq rfl (fun _ => ?_) (fun _ => ?_)
  · exact zD190_62_ok hd hc33 v1 v2 v3 (v4 + (1)) x9 x14 μ hT
  refine zK_op rfl rfl ?_
  refine zK_op rfl rfl ?_
  refine zK_iceq rfl (fun _ => ?_) (fun _ => ?_)
  · exact zD190_62_ok hd hc33 v1 v2 v3 (v4 + (1)) x9 x14 μ hT
  refine zK_op rfl rfl ?_
  refine zK_op rfl rfl ?_
  refine zK_iceq rfl (fun _ => ?_) (fun _ => ?_)
  · exact zD190_62_ok hd hc33 v1 v2 v3 (v4 + (1)) x9 x14 μ hT
  refine zK_op rfl rfl ?_
  refine zK_op rfl rfl ?_
  refine zK_icne rfl (fun _ => ?_) (fun _ => ?_)
  · exact zD190_62_ok hd hc33 v1 v2 v3 (v4 + (1)) x9 x14 μ hT
  refine zK_op rfl rfl ?_
  refine zK_op rfl rfl ?_
  refine zK_icne rfl (fun _ => ?_) (fun _ => ?_)
  · refine zK_op rfl rfl ?_
    refine zK_gRl (b := 253) rfl rfl rfl hT ?_
    refine zK_op rfl rfl ?_
    refine zK_op rfl rfl ?_
    refine zK_op rfl rfl ?_
    refine zK_op rfl rfl ?_
    refine zK_gRl (b := 253) rfl rfl rfl hT ?_
    refine zK_op rfl rfl ?_
    refine zK_op rfl rfl ?_
    refine zK_op rfl rfl ?_
    refine zK_x (fun j33 h34 h35 h36 => ?_)
    refine zK_aI rfl rfl hT h34 h35 h36 ?_
    refine zK_op rfl rfl ?_
    refine zK_x (fun j37 h38 h39 h40 => ?_)
    refine zK_sI (a := 253) (g := (fun x => x)) rfl rfl hT h38 h39 h40 rfl (fun m41 T42 => ?_)
    refine zK_op rfl rfl ?_
    exact zD190_212_ok hd hc33 v1 v2 v3 (v4 + (1)) _ _ m41 T42
  refine zK_op rfl rfl ?_
  refine zK_op rfl rfl ?_
  refine zK_icne rfl (fun _ => ?_) (fun _ => ?_)
  · refine zK_op rfl rfl ?_
    refine zK_op rfl rfl ?_
    refine zK_gRl (b := 253) rfl rfl rfl hT ?_
    refine zK_op rfl rfl ?_
    refine zK_op rfl rfl ?_
    refine zK_op rfl rfl ?_
    refine zK_op rfl rfl ?_
    refine zK_op rfl rfl ?_
    refine zK_gRl (b := 253) rfl rfl rfl hT ?_
    refine zK_op rfl rfl ?_
    refine zK_op rfl rfl ?_
    refine zK_op rfl rfl ?_
    refine zK_x (fun j43 h44 h45 h46 => ?_)
    refine zK_aI rfl rfl hT h44 h45 h46 ?_
    refine zK_op rfl rfl ?_
    refine zK_gRl (b := 253) rfl rfl rfl hT ?_
    refine zK_op rfl rfl ?_
    refine zK_x (fun j47 h48 h49 h50 => ?_)
    refine zK_aI rfl rfl hT h48 h49 h50 ?_
    refine zK_cI rfl (as := [.int x9, .int (xe_I μ 253 j43), .int (xe_I μ 253 j47)]) (rest := [.int ((v2 + (-1)) - 1), .ref 253]) rfl rfl rfl (Nat.le_of_ble_eq_true rfl) (Nat.le_of_ble_eq_true rfl) (by decide) (fun _ => rfl) (by omega) (zD191_ok (by omega) x9 (xe_I μ 253 j43) (xe_I μ 253 j47) μ hT) (fun x53 m51 T52 => ?_)
    refine zK_x (fun j54 h55 h56 h57 => ?_)
    refine zK_sI (a := 253) (g := (fun x => x)) rfl rfl T52 h55 h56 h57 rfl (fun m58 T59 => ?_)
    refine zK_op rfl rfl ?_
    exact zD190_212_ok hd hc33 v1 (v2 + (-1)) v3 (v4 + (1)) _ _ m58 T59
  refine zK_op rfl rfl ?_
  refine zK_op rfl rfl ?_
  refine zK_iceq rfl (fun _ => ?_) (fun _ => ?_)
  · exact zD190_139_ok hd hc33 v1 v2 v3 (v4 + (1)) x9 x14 μ hT
  refine zK_op rfl rfl ?_
  refine zK_op rfl rfl ?_
  refine zK_icne rfl (fun _ => ?_) (fun _ => ?_)
  · exact zD190_139_ok hd hc33 v1 v2 v3 (v4 + (1)) x9 x14 μ hT
  refine zK_op rfl rfl ?_
  refine zK_op rfl rfl ?_
  refine zK_icne rfl (fun _ => ?_) (fun _ => ?_)
  · refine zK_op rfl rfl ?_
    refine zK_op rfl rfl ?_
    refine zK_gRl (b := 253) rfl rfl rfl hT ?_
    refine zK_op rfl rfl ?_
    refine zK_x (fun j80 h81 h82 h83 => ?_)
    refine zK_aI rfl rfl hT h81 h82 h83 ?_
    refine zK_ifne rfl (fun _ => ?_) (fun _ => ?_)
    · refine zK_op rfl rfl ?_
      refine zK_op rfl rfl ?_
      exact zD190_173_ok hd hc33 v1 (v2 + (-1)) v3 x9 _ _ _ μ hT
    refine zK_op rfl rfl ?_
    exact zD190_173_ok hd hc33 v1 (v2 + (-1)) v3 (v4 + (1)) _ _ _ μ hT
  refine zK_op rfl rfl ?_
  refine zK_op rfl rfl ?_
  refine zK_icne rfl (fun _ => ?_) (fun _ => ?_)
  · refine zK_op rfl rfl ?_
    refine zK_op rfl rfl ?_
    refine zK_op rfl rfl ?_
    exact zD190_212_ok hd hc33 v1 v2 v3 x9 _ _ μ hT
  refine zK_op rfl rfl ?_
  refine zK_op rfl rfl ?_
  refine zK_icne rfl (fun _ => ?_) (fun _ => ?_)
  · refine zK_op rfl rfl ?_
    refine zK_gRl (b := 254) rfl rfl rfl hT ?_
    refine zK_op rfl rfl ?_
    refine zK_op rfl rfl ?_
    refine zK_x (fun j84 h85 h86 h87 => ?_)
    refine zK_sI (a := 254) (g := (fun x => x)) rfl rfl hT h85 h86 h87 rfl (fun m88 T89 => ?_)
    refine zK_op rfl rfl ?_
    refine zK_op rfl rfl ?_
    exact zD190_212_ok hd hc33 v1 v2 (v3 + (1)) (v4 + (1)) _ _ m88 T89
  refine zK_op rfl rfl ?_
  refine zK_gRl (b := 254) rfl rfl rfl hT ?_
  refine zK_op rfl rfl ?_
  refine zK_op rfl rfl ?_
  refine zK_op rfl rfl ?_
  refine zK_op rfl rfl ?_
  refine zK_x (fun j90 h91 h92 h93 => ?_)
  refine zK_aI rfl rfl hT h91 h92 h93 ?_
  refine zK_op rfl rfl ?_
  refine zK_op rfl rfl ?_
  refine zK_x (fun j94 h95 h96 h97 => ?_)
  refine zK_sI (a := 254) (g := (fun x => x)) rfl rfl hT h95 h96 h97 rfl (fun m98 T99 => ?_)
  refine zK_op rfl rfl ?_
  refine zK_gRl (b := 254) rfl rfl rfl T99 ?_
  refine zK_op rfl rfl ?_
  refine zK_op rfl rfl ?_
  refine zK_op rfl rfl ?_
  refine zK_x (fun j100 h101 h102 h103 => ?_)
  refine zK_aI rfl rfl T99 h101 h102 h103 ?_
  refine zK_ifle rfl (fun _ => ?_) (fun _ => ?_)
  · refine zK_op rfl rfl ?_
    exact zD190_212_ok hd hc33 v1 v2 (v3 + (-1)) (v4 + (1)) _ _ m98 T99
  refine zK_op rfl rfl ?_
  refine zK_op rfl rfl ?_
  refine zK_op rfl rfl ?_
  exact zD190_212_ok hd hc33 v1 v2 v3 x9 _ _ m98 T99
theorem zD190_33_ok {μ0 : xe_Mem} {δ : xe_Dy} {d : Nat} (hd : 1 ≤ d)  : ∀ n : Nat, ∀ (v1 : Int32) (v2 : Int32) (v3 : Int32) (v4 : Int32) (l5 : Option Value) (l6 : Option Value) (μ : xe_Mem), zT zPr μ0 μ → zK zPr μ0 δ d 190 33 [some (.ref 203), some (.int v1), some (.int v2), some (.int v3), some (.int v4), l5, l6] [] μ (zD190_33  n v1 v2 v3 v4 μ) := by
  intro n
  induction n with
  | zero => exact fun _ _ _ _ _ _ _ _  => fun o μ' h => by cases h
  | succ n ih => exact zD190_33_bok hd   ih
theorem zD190_17_bok {μ0 : xe_Mem} {δ : xe_Dy} {d : Nat} (hd : 1 ≤ d)  {c17 : Int32 → Int32 → xe_Mem → zO} (hc17 : ∀ (v1 : Int32) (v2 : Int32) (μ : xe_Mem), zT zPr μ0 μ → zK zPr μ0 δ d 190 17 [some (.ref 203), some (.int v1), some (.int v2), none, none, none, none] [] μ (c17 v1 v2 μ)) : ∀ (v1 : Int32) (v2 : Int32) (μ : xe_Mem), zT zPr μ0 μ → zK zPr μ0 δ d 190 17 [some (.ref 203), some (.int v1), some (.int v2), none, none, none, none] [] μ (zD190_17_b  c17 v1 v2 μ) := by
  intro v1 v2 μ hT
  unfold zD190_17_b
  refine zK_op rfl rfl ?_
  refine zK_op rfl rfl ?_
  refine zK_icge rfl (fun _ => ?_) (fun _ => ?_)
  · refine zK_op rfl rfl ?_
    refine zK_op rfl rfl ?_
    refine zK_op rfl rfl ?_
    refine zK_op rfl rfl ?_
    refine zK_op rfl rfl ?_
    refine zK_op rfl rfl ?_
    exact zD190_33_ok hd zfu v1 0 0 v1 _ _ μ hT
  refine zK_op rfl rfl ?_
  refine zK_gRl (b := 251) rfl rfl rfl hT ?_
  refine zK_op rfl rfl ?_
  refine zK_op rfl rfl ?_
  refine zK_x (fun j104 h105 h106 h107 => ?_)
  refine zK_sI (a := 251) (g := (fun x => x)) rfl rfl hT h105 h106 h107 rfl (fun m108 T109 => ?_)
  refine zK_op rfl rfl ?_
  refine zK_op rfl rfl ?_
  exact hc17 v1 (v2 + (1)) m108 T109
theorem zD190_17_ok {μ0 : xe_Mem} {δ : xe_Dy} {d : Nat} (hd : 1 ≤ d)  : ∀ n : Nat, ∀ (v1 : Int32) (v2 : Int32) (μ : xe_Mem), zT zPr μ0 μ → zK zPr μ0 δ d 190 17 [some (.ref 203), some (.int v1), some (.int v2), none, none, none, none] [] μ (zD190_17  n v1 v2 μ) := by
  intro n
  induction n with
  | zero => exact fun _ _ _ _  => fun o μ' h => by cases h
  | succ n ih => exact zD190_17_bok hd   ih
theorem zD190_2_bok {μ0 : xe_Mem} {δ : xe_Dy} {d : Nat} (hd : 1 ≤ d)  {c2 : Int32 → Int32 → xe_Mem → zO} (hc2 : ∀ (v1 : Int32) (v2 : Int32) (μ : xe_Mem), zT zPr μ0 μ → zK zPr μ0 δ d 190 2 [some (.ref 203), some (.int v1), some (.int v2), none, none, none, none] [] μ (c2 v1 v2 μ)) : ∀ (v1 : Int32) (v2 : Int32) (μ : xe_Mem), zT zPr μ0 μ → zK zPr μ0 δ d 190 2 [some (.ref 203), some (.int v1), some (.int v2), none, none, none, none] [] μ (zD190_2_b  c2 v1 v2 μ) := by
  intro v1 v2 μ hT
  unfold zD190_2_b
  refine zK_op rfl rfl ?_
  refine zK_op rfl rfl ?_
  refine zK_icge rfl (fun _ => ?_) (fun _ => ?_)
  · refine zK_op rfl rfl ?_
    refine zK_op rfl rfl ?_
    exact zD190_17_ok hd zfu v1 0 μ hT
  refine zK_op rfl rfl ?_
  refine zK_gRl (b := 252) rfl rfl rfl hT ?_
  refine zK_op rfl rfl ?_
  refine zK_op rfl rfl ?_
  refine zK_gRl (b := 250) rfl rfl rfl hT ?_
  refine zK_op rfl rfl ?_
  refine zK_x (fun j110 h111 h112 h113 => ?_)
  refine zK_aI rfl rfl hT h111 h112 h113 ?_
  refine zK_x (fun j114 h115 h116 h117 => ?_)
  refine zK_sI (a := 252) (g := (fun x => x)) rfl rfl hT h115 h116 h117 rfl (fun m118 T119 => ?_)
  refine zK_op rfl rfl ?_
  refine zK_op rfl rfl ?_
  exact hc2 v1 (v2 + (1)) m118 T119
theorem zD190_2_ok {μ0 : xe_Mem} {δ : xe_Dy} {d : Nat} (hd : 1 ≤ d)  : ∀ n : Nat, ∀ (v1 : Int32) (v2 : Int32) (μ : xe_Mem), zT zPr μ0 μ → zK zPr μ0 δ d 190 2 [some (.ref 203), some (.int v1), some (.int v2), none, none, none, none] [] μ (zD190_2  n v1 v2 μ) := by
  intro n
  induction n with
  | zero => exact fun _ _ _ _  => fun o μ' h => by cases h
  | succ n ih => exact zD190_2_bok hd   ih
theorem zD190_ok {μ0 : xe_Mem} {δ : xe_Dy} {d : Nat} (hd : 1 ≤ d) (a1 : Int32) (μ : xe_Mem) (hT : zT zPr μ0 μ) : zK zPr μ0 δ d 190 0 (xe_init [.ref 203, .int a1] (xM_L 190)) [] μ (zD190 a1 μ) := by
  unfold zD190
  show zK zPr μ0 δ d 190 0 [some (.ref 203), some (.int a1), none, none, none, none, none] [] μ _
  refine zK_op rfl rfl ?_
  refine zK_op rfl rfl ?_
  exact zD190_2_ok hd zfu a1 0 μ hT
/-! 189 LogicalTimesModel.goesOver()Z -/
def zD189_61 (c2 : Int32 → xe_Mem → zO) (v1 : Int32) (μ : xe_Mem) : zO := c2 (v1 + (1)) μ
def zD189_24_b (c2 : Int32 → xe_Mem → zO) (c24 : Int32 → Int32 → xe_Mem → zO) (v1 : Int32) (v2 : Int32) (μ : xe_Mem) : zO := if 12 ≤ v2 then zq_x v1 16 fun j10 => zq_cI (zD190 (xe_I μ 233 j10) μ) fun x16 m14 => if x16 = 0 then zD189_61 c2 v1 m14 else zq_x v1 16 fun j17 => zq_cI (zD152 (xe_L m14 234 j17) m14) fun x23 m21 => zq_m (xe_setI m21 203 71 x23) fun m24 => zq_m (xe_setI m24 203 73 ((xe_I m24 203 73) + 1)) fun m26 => some (.inl (some (.int 1)), m26) else zq_x v2 12 fun j28 => zq_x v2 12 fun j32 => zq_m (xe_setI μ 250 j32 (xe_I μ 255 j28)) fun m36 => c24 v1 (v2 + (1)) m36
def zD189_24  (c2 : Int32 → xe_Mem → zO) : Nat → Int32 → Int32 → xe_Mem → zO
  | 0 => fun _ _ _  => none
  | n + 1 => zD189_24_b  c2 (zD189_24  c2 n)
def zD189_2_b (c2 : Int32 → xe_Mem → zO) (v1 : Int32) (μ : xe_Mem) : zO := if (xe_I μ 203 37) ≤ v1 then some (.inl (some (.int 0)), μ) else zq_x v1 16 fun j1 => if (xe_I μ 231 j1) = (xe_I μ 203 71) then zq_x v1 16 fun j5 => zq_d (xe_I μ 232 j5) <| if ((xe_I μ 203 72) - (xe_I μ 203 72) / (xe_I μ 232 j5) * (xe_I μ 232 j5)) = 0 then zD189_24 c2 zfu v1 0 μ else zD189_61 c2 v1 μ else zD189_61 c2 v1 μ
def zD189_2   : Nat → Int32 → xe_Mem → zO
  | 0 => fun _ _  => none
  | n + 1 => zD189_2_b   (zD189_2   n)
def zD189   (μ : xe_Mem) : zO := zD189_2 zfu 0 μ
theorem zD189_61_ok {μ0 : xe_Mem} {δ : xe_Dy} {d : Nat} (hd : 2 ≤ d) {c2 : Int32 → xe_Mem → zO} (hc2 : ∀ (v1 : Int32) (l2 : Option Value) (μ : xe_Mem), zT zPr μ0 μ → zK zPr μ0 δ d 189 2 [some (.ref 203), some (.int v1), l2] [] μ (c2 v1 μ)) : ∀ (v1 : Int32) (l2 : Option Value) (μ : xe_Mem), zT zPr μ0 μ → zK zPr μ0 δ d 189 61 [some (.ref 203), some (.int v1), l2] [] μ (zD189_61  c2 v1 μ) := by
  intro v1 l2 μ hT
  unfold zD189_61
  refine zK_op rfl rfl ?_
  refine zK_op rfl rfl ?_
  exact hc2 (v1 + (1)) _ μ hT
theorem zD189_24_bok {μ0 : xe_Mem} {δ : xe_Dy} {d : Nat} (hd : 2 ≤ d) {c2 : Int32 → xe_Mem → zO} (hc2 : ∀ (v1 : Int32) (l2 : Option Value) (μ : xe_Mem), zT zPr μ0 μ → zK zPr μ0 δ d 189 2 [some (.ref 203), some (.int v1), l2] [] μ (c2 v1 μ)) {c24 : Int32 → Int32 → xe_Mem → zO} (hc24 : ∀ (v1 : Int32) (v2 : Int32) (μ : xe_Mem), zT zPr μ0 μ → zK zPr μ0 δ d 189 24 [some (.ref 203), some (.int v1), some (.int v2)] [] μ (c24 v1 v2 μ)) : ∀ (v1 : Int32) (v2 : Int32) (μ : xe_Mem), zT zPr μ0 μ → zK zPr μ0 δ d 189 24 [some (.ref 203), some (.int v1), some (.int v2)] [] μ (zD189_24_b  c2 c24 v1 v2 μ) := by
  intro v1 v2 μ hT
  unfold zD189_24_b
  refine zK_op rfl rfl ?_
  refine zK_op rfl rfl ?_
  refine zK_icge rfl (fun _ => ?_) (fun _ => ?_)
  · refine zK_op rfl rfl ?_
    refine zK_op rfl rfl ?_
    refine zK_gRl (b := 233) rfl rfl rfl hT ?_
    refine zK_op rfl rfl ?_
    refine zK_x (fun j10 h11 h12 h13 => ?_)
    refine zK_aI rfl rfl hT h11 h12 h13 ?_
    refine zK_cI rfl (as := [.ref 203, .int (xe_I μ 233 j10)]) (rest := []) rfl rfl (xe_rcvO (zT_sh hT rfl)) (Nat.le_of_ble_eq_true rfl) (Nat.le_of_ble_eq_true rfl) (by decide) (fun _ => rfl) (by omega) (zD190_ok (by omega) (xe_I μ 233 j10) μ hT) (fun x16 m14 T15 => ?_)
    refine zK_ifne rfl (fun _ => ?_) (fun _ => ?_)
    · refine zK_op rfl rfl ?_
      exact zD189_61_ok hd hc2 v1 _ m14 T15
    refine zK_op rfl rfl ?_
    refine zK_op rfl rfl ?_
    refine zK_op rfl rfl ?_
    refine zK_gRl (b := 234) rfl rfl rfl T15 ?_
    refine zK_op rfl rfl ?_
    refine zK_x (fun j17 h18 h19 h20 => ?_)
    refine zK_aL rfl rfl T15 h18 h19 h20 ?_
    refine zK_cI rfl (as := [.ref 203, .long (xe_L m14 234 j17)]) (rest := [.ref 203]) rfl rfl (xe_rcvO (zT_sh T15 rfl)) (Nat.le_of_ble_eq_true rfl) (Nat.le_of_ble_eq_true rfl) (by decide) (fun _ => rfl) (by omega) (zD152_ok (by omega) (xe_L m14 234 j17) m14 T15) (fun x23 m21 T22 => ?_)
    refine zK_pI rfl rfl T22 rfl (fun m24 T25 => ?_)
    refine zK_op rfl rfl ?_
    refine zK_op rfl rfl ?_
    refine zK_gI rfl rfl T25 ?_
    refine zK_op rfl rfl ?_
    refine zK_op rfl rfl ?_
    refine zK_pI rfl rfl T25 rfl (fun m26 T27 => ?_)
    refine zK_op rfl rfl ?_
    exact zK_ret3 rfl (Or.inr rfl) T27
  refine zK_op rfl rfl ?_
  refine zK_gRl (b := 250) rfl rfl rfl hT ?_
  refine zK_op rfl rfl ?_
  refine zK_op rfl rfl ?_
  refine zK_gRl (b := 255) rfl rfl rfl hT ?_
  refine zK_op rfl rfl ?_
  refine zK_x (fun j28 h29 h30 h31 => ?_)
  refine zK_aI rfl rfl hT h29 h30 h31 ?_
  refine zK_x (fun j32 h33 h34 h35 => ?_)
  refine zK_sI (a := 250) (g := (fun x => x)) rfl rfl hT h33 h34 h35 rfl (fun m36 T37 => ?_)
  refine zK_op rfl rfl ?_
  refine zK_op rfl rfl ?_
  exact hc24 v1 (v2 + (1)) m36 T37
theorem zD189_24_ok {μ0 : xe_Mem} {δ : xe_Dy} {d : Nat} (hd : 2 ≤ d) {c2 : Int32 → xe_Mem → zO} (hc2 : ∀ (v1 : Int32) (l2 : Option Value) (μ : xe_Mem), zT zPr μ0 μ → zK zPr μ0 δ d 189 2 [some (.ref 203), some (.int v1), l2] [] μ (c2 v1 μ)) : ∀ n : Nat, ∀ (v1 : Int32) (v2 : Int32) (μ : xe_Mem), zT zPr μ0 μ → zK zPr μ0 δ d 189 24 [some (.ref 203), some (.int v1), some (.int v2)] [] μ (zD189_24  c2 n v1 v2 μ) := by
  intro n
  induction n with
  | zero => exact fun _ _ _ _  => fun o μ' h => by cases h
  | succ n ih => exact zD189_24_bok hd  hc2 ih
theorem zD189_2_bok {μ0 : xe_Mem} {δ : xe_Dy} {d : Nat} (hd : 2 ≤ d)  {c2 : Int32 → xe_Mem → zO} (hc2 : ∀ (v1 : Int32) (l2 : Option Value) (μ : xe_Mem), zT zPr μ0 μ → zK zPr μ0 δ d 189 2 [some (.ref 203), some (.int v1), l2] [] μ (c2 v1 μ)) : ∀ (v1 : Int32) (l2 : Option Value) (μ : xe_Mem), zT zPr μ0 μ → zK zPr μ0 δ d 189 2 [some (.ref 203), some (.int v1), l2] [] μ (zD189_2_b  c2 v1 μ) := by
  intro v1 l2 μ hT
  unfold zD189_2_b
  refine zK_op rfl rfl ?_
  refine zK_op rfl rfl ?_
  refine zK_gI rfl rfl hT ?_
  refine zK_icge rfl (fun _ => ?_) (fun _ => ?_)
  · refine zK_op rfl rfl ?_
    exact zK_ret3 rfl (Or.inl rfl) hT
  refine zK_op rfl rfl ?_
  refine zK_gRl (b := 231) rfl rfl rfl hT ?_
  refine zK_op rfl rfl ?_
  refine zK_x (fun j1 h2 h3 h4 => ?_)
  refine zK_aI rfl rfl hT h2 h3 h4 ?_
  refine zK_op rfl rfl ?_
  refine zK_gI rfl rfl hT ?_
  refine zK_icne rfl (fun _ => ?_) (fun _ => ?_)
  · refine zK_op rfl rfl ?_
    refine zK_gI rfl rfl hT ?_
    refine zK_op rfl rfl ?_
    refine zK_gRl (b := 232) rfl rfl rfl hT ?_
    refine zK_op rfl rfl ?_
    refine zK_x (fun j5 h6 h7 h8 => ?_)
    refine zK_aI rfl rfl hT h6 h7 h8 ?_
    refine zK_dv (fun h9 => ?_)
    refine zK_i2d rfl h9 ?_
    refine zK_ifeq rfl (fun _ => ?_) (fun _ => ?_)
    · refine zK_op rfl rfl ?_
      refine zK_op rfl rfl ?_
      exact zD189_24_ok hd hc2 zfu v1 0 μ hT
    refine zK_op rfl rfl ?_
    exact zD189_61_ok hd hc2 v1 _ μ hT
  exact zD189_61_ok hd hc2 v1 _ μ hT
theorem zD189_2_ok {μ0 : xe_Mem} {δ : xe_Dy} {d : Nat} (hd : 2 ≤ d)  : ∀ n : Nat, ∀ (v1 : Int32) (l2 : Option Value) (μ : xe_Mem), zT zPr μ0 μ → zK zPr μ0 δ d 189 2 [some (.ref 203), some (.int v1), l2] [] μ (zD189_2  n v1 μ) := by
  intro n
  induction n with
  | zero => exact fun _ _ _ _  => fun o μ' h => by cases h
  | succ n ih => exact zD189_2_bok hd   ih
theorem zD189_ok {μ0 : xe_Mem} {δ : xe_Dy} {d : Nat} (hd : 2 ≤ d) (μ : xe_Mem) (hT : zT zPr μ0 μ) : zK zPr μ0 δ d 189 0 (xe_init [.ref 203] (xM_L 189)) [] μ (zD189 μ) := by
  unfold zD189
  show zK zPr μ0 δ d 189 0 [some (.ref 203), none, none] [] μ _
  refine zK_op rfl rfl ?_
  refine zK_op rfl rfl ?_
  exact zD189_2_ok hd zfu 0 _ μ hT
/-! 192 LogicalTimesModel.begin(I)V -/
def zD192_125 (μ : xe_Mem) : zO := some (.inl none, μ)
def zD192_108 (v1 : Int32) (s1 : Int32) (s2 : Int32) (μ : xe_Mem) : zO := zq_x s1 24 fun j23 => zq_m (xe_setI μ 259 j23 s2) fun m27 => zq_x v1 24 fun j29 => zq_m (xe_setI m27 260 j29 ((-1))) fun m33 => zq_x v1 24 fun j35 => if (xe_I m33 259 j35) = 0 then zq_m (xe_setI m33 203 77 ((xe_I m33 203 77) + 1)) fun m39 => zD192_125 m39 else zD192_125 m33
def zD192_74_b (c74 : Int32 → Int32 → Int32 → xe_Mem → zO) (v1 : Int32) (v2 : Int32) (v3 : Int32) (μ : xe_Mem) : zO := if 12 ≤ v3 then zq_x v1 24 fun j15 => if (xe_I μ 260 j15) < 0 then zq_x v1 24 fun j19 => zD192_108 v1 v1 (xe_I μ 222 j19) μ else zq_x v1 24 fun j41 => zD192_108 v1 v1 (xe_I μ 260 j41) μ else zq_x v3 12 fun j45 => zq_x ((12 * v1) + v3) 288 fun j49 => zq_m (xe_setI μ 262 j49 (xe_I μ 252 j45)) fun m53 => c74 v1 v2 (v3 + (1)) m53
def zD192_74   : Nat → Int32 → Int32 → Int32 → xe_Mem → zO
  | 0 => fun _ _ _ _  => none
  | n + 1 => zD192_74_b   (zD192_74   n)
def zD192_31_b (c31 : Int32 → Int32 → Int32 → xe_Mem → zO) (v1 : Int32) (v2 : Int32) (v3 : Int32) (μ : xe_Mem) : zO := if 12 ≤ v3 then zq_x v1 24 fun j8 => zq_cI (zD190 (xe_I μ 224 j8) μ) fun x14 m12 => zD192_74 zfu v1 x14 0 m12 else zq_x v3 12 fun j55 => zq_x ((12 * v1) + v3) 288 fun j59 => zq_m (xe_setI μ 261 j59 (xe_I μ 252 j55)) fun m63 => zq_x v3 12 fun j65 => zq_x v3 12 fun j69 => zq_m (xe_setI m63 250 j69 (xe_I m63 255 j65)) fun m73 => zq_x ((12 * v1) + v3) 288 fun j75 => zq_m (xe_setI m73 263 j75 ((vp_nar .boolean) 0)) fun m79 => c31 v1 v2 (v3 + (1)) m79
def zD192_31   : Nat → Int32 → Int32 → Int32 → xe_Mem → zO
  | 0 => fun _ _ _ _  => none
  | n + 1 => zD192_31_b   (zD192_31   n)
def zD192_2_b (c2 : Int32 → Int32 → xe_Mem → zO) (v1 : Int32) (v2 : Int32) (μ : xe_Mem) : zO := if 12 ≤ v2 then zq_x v1 24 fun j1 => zq_cI (zD190 (xe_I μ 224 j1) μ) fun x7 m5 => zD192_31 zfu v1 x7 0 m5 else zq_x v1 24 fun j81 => zq_x ((12 * (xe_I μ 219 j81)) + v2) 48 fun j85 => zq_x v2 12 fun j89 => zq_m (xe_setI μ 250 j89 (xe_I μ 256 j85)) fun m93 => c2 v1 (v2 + (1)) m93
def zD192_2   : Nat → Int32 → Int32 → xe_Mem → zO
  | 0 => fun _ _ _  => none
  | n + 1 => zD192_2_b   (zD192_2   n)
def zD192  (a1 : Int32) (μ : xe_Mem) : zO := zD192_2 zfu a1 0 μ
theorem zD192_125_ok {μ0 : xe_Mem} {δ : xe_Dy} {d : Nat} (hd : 2 ≤ d)  : ∀ (l0 : Option Value) (l1 : Option Value) (l2 : Option Value) (l3 : Option Value) (μ : xe_Mem), zT zPr μ0 μ → zK zPr μ0 δ d 192 125 [l0, l1, l2, l3] [] μ (zD192_125  μ) := by
  intro l0 l1 l2 l3 μ hT
  unfold zD192_125
  exact zK_ret0 rfl hT
theorem zD192_108_ok {μ0 : xe_Mem} {δ : xe_Dy} {d : Nat} (hd : 2 ≤ d)  : ∀ (v1 : Int32) (s1 : Int32) (s2 : Int32) (l2 : Option Value) (l3 : Option Value) (μ : xe_Mem), zT zPr μ0 μ → zK zPr μ0 δ d 192 108 [some (.ref 203), some (.int v1), l2, l3] [.int s2, .int s1, .ref 259] μ (zD192_108  v1 s1 s2 μ) := by
  intro v1 s1 s2 l2 l3 μ hT
  unfold zD192_108
  refine zK_x (fun j23 h24 h25 h26 => ?_)
  refine zK_sI (a := 259) (g := (fun x => x)) rfl rfl hT h24 h25 h26 rfl (fun m27 T28 => ?_)
  refine zK_op rfl rfl ?_
  refine zK_gRl (b := 260) rfl rfl rfl T28 ?_
  refine zK_op rfl rfl ?_
  refine zK_op rfl rfl ?_
  refine zK_x (fun j29 h30 h31 h32 => ?_)
  refine zK_sI (a := 260) (g := (fun x => x)) rfl rfl T28 h30 h31 h32 rfl (fun m33 T34 => ?_)
  refine zK_op rfl rfl ?_
  refine zK_gRl (b := 259) rfl rfl rfl T34 ?_
  refine zK_op rfl rfl ?_
  refine zK_x (fun j35 h36 h37 h38 => ?_)
  refine zK_aI rfl rfl T34 h36 h37 h38 ?_
  refine zK_ifne rfl (fun _ => ?_) (fun _ => ?_)
  · refine zK_op rfl rfl ?_
    refine zK_op rfl rfl ?_
    refine zK_gI rfl rfl T34 ?_
    refine zK_op rfl rfl ?_
    refine zK_op rfl rfl ?_
    refine zK_pI rfl rfl T34 rfl (fun m39 T40 => ?_)
    exact zD192_125_ok hd _ _ _ _ m39 T40
  exact zD192_125_ok hd _ _ _ _ m33 T34
theorem zD192_74_bok {μ0 : xe_Mem} {δ : xe_Dy} {d : Nat} (hd : 2 ≤ d)  {c74 : Int32 → Int32 → Int32 → xe_Mem → zO} (hc74 : ∀ (v1 : Int32) (v2 : Int32) (v3 : Int32) (μ : xe_Mem), zT zPr μ0 μ → zK zPr μ0 δ d 192 74 [some (.ref 203), some (.int v1), some (.int v2), some (.int v3)] [] μ (c74 v1 v2 v3 μ)) : ∀ (v1 : Int32) (v2 : Int32) (v3 : Int32) (μ : xe_Mem), zT zPr μ0 μ → zK zPr μ0 δ d 192 74 [some (.ref 203), some (.int v1), some (.int v2), some (.int v3)] [] μ (zD192_74_b  c74 v1 v2 v3 μ) := by
  intro v1 v2 v3 μ hT
  unfold zD192_74_b
  refine zK_op rfl rfl ?_
  refine zK_op rfl rfl ?_
  refine zK_icge rfl (fun _ => ?_) (fun _ => ?_)
  · refine zK_op rfl rfl ?_
    refine zK_gRl (b := 259) rfl rfl rfl hT ?_
    refine zK_op rfl rfl ?_
    refine zK_op rfl rfl ?_
    refine zK_gRl (b := 260) rfl rfl rfl hT ?_
    refine zK_op rfl rfl ?_
    refine zK_x (fun j15 h16 h17 h18 => ?_)
    refine zK_aI rfl rfl hT h16 h17 h18 ?_
    refine zK_iflt rfl (fun _ => ?_) (fun _ => ?_)
    · refine zK_op rfl rfl ?_
      refine zK_gRl (b := 222) rfl rfl rfl hT ?_
      refine zK_op rfl rfl ?_
      refine zK_x (fun j19 h20 h21 h22 => ?_)
      refine zK_aI rfl rfl hT h20 h21 h22 ?_
      exact zD192_108_ok hd v1 v1 (xe_I μ 222 j19) _ _ μ hT
    refine zK_op rfl rfl ?_
    refine zK_gRl (b := 260) rfl rfl rfl hT ?_
    refine zK_op rfl rfl ?_
    refine zK_x (fun j41 h42 h43 h44 => ?_)
    refine zK_aI rfl rfl hT h42 h43 h44 ?_
    refine zK_op rfl rfl ?_
    exact zD192_108_ok hd v1 v1 (xe_I μ 260 j41) _ _ μ hT
  refine zK_op rfl rfl ?_
  refine zK_gRl (b := 262) rfl rfl rfl hT ?_
  refine zK_op rfl rfl ?_
  refine zK_op rfl rfl ?_
  refine zK_op rfl rfl ?_
  refine zK_op rfl rfl ?_
  refine zK_op rfl rfl ?_
  refine zK_op rfl rfl ?_
  refine zK_gRl (b := 252) rfl rfl rfl hT ?_
  refine zK_op rfl rfl ?_
  refine zK_x (fun j45 h46 h47 h48 => ?_)
  refine zK_aI rfl rfl hT h46 h47 h48 ?_
  refine zK_x (fun j49 h50 h51 h52 => ?_)
  refine zK_sI (a := 262) (g := (fun x => x)) rfl rfl hT h50 h51 h52 rfl (fun m53 T54 => ?_)
  refine zK_op rfl rfl ?_
  refine zK_op rfl rfl ?_
  exact hc74 v1 v2 (v3 + (1)) m53 T54
theorem zD192_74_ok {μ0 : xe_Mem} {δ : xe_Dy} {d : Nat} (hd : 2 ≤ d)  : ∀ n : Nat, ∀ (v1 : Int32) (v2 : Int32) (v3 : Int32) (μ : xe_Mem), zT zPr μ0 μ → zK zPr μ0 δ d 192 74 [some (.ref 203), some (.int v1), some (.int v2), some (.int v3)] [] μ (zD192_74  n v1 v2 v3 μ) := by
  intro n
  induction n with
  | zero => exact fun _ _ _ _ _  => fun o μ' h => by cases h
  | succ n ih => exact zD192_74_bok hd   ih
theorem zD192_31_bok {μ0 : xe_Mem} {δ : xe_Dy} {d : Nat} (hd : 2 ≤ d)  {c31 : Int32 → Int32 → Int32 → xe_Mem → zO} (hc31 : ∀ (v1 : Int32) (v2 : Int32) (v3 : Int32) (μ : xe_Mem), zT zPr μ0 μ → zK zPr μ0 δ d 192 31 [some (.ref 203), some (.int v1), some (.int v2), some (.int v3)] [] μ (c31 v1 v2 v3 μ)) : ∀ (v1 : Int32) (v2 : Int32) (v3 : Int32) (μ : xe_Mem), zT zPr μ0 μ → zK zPr μ0 δ d 192 31 [some (.ref 203), some (.int v1), some (.int v2), some (.int v3)] [] μ (zD192_31_b  c31 v1 v2 v3 μ) := by
  intro v1 v2 v3 μ hT
  unfold zD192_31_b
  refine zK_op rfl rfl ?_
  refine zK_op rfl rfl ?_
  refine zK_icge rfl (fun _ => ?_) (fun _ => ?_)
  · refine zK_op rfl rfl ?_
    refine zK_op rfl rfl ?_
    refine zK_gRl (b := 224) rfl rfl rfl hT ?_
    refine zK_op rfl rfl ?_
    refine zK_x (fun j8 h9 h10 h11 => ?_)
    refine zK_aI rfl rfl hT h9 h10 h11 ?_
    refine zK_cI rfl (as := [.ref 203, .int (xe_I μ 224 j8)]) (rest := []) rfl rfl (xe_rcvO (zT_sh hT rfl)) (Nat.le_of_ble_eq_true rfl) (Nat.le_of_ble_eq_true rfl) (by decide) (fun _ => rfl) (by omega) (zD190_ok (by omega) (xe_I μ 224 j8) μ hT) (fun x14 m12 T13 => ?_)
    refine zK_op rfl rfl ?_
    refine zK_op rfl rfl ?_
    refine zK_op rfl rfl ?_
    exact zD192_74_ok hd zfu v1 x14 0 m12 T13
  refine zK_op rfl rfl ?_
  refine zK_gRl (b := 261) rfl rfl rfl hT ?_
  refine zK_op rfl rfl ?_
  refine zK_op rfl rfl ?_
  refine zK_op rfl rfl ?_
  refine zK_op rfl rfl ?_
  refine zK_op rfl rfl ?_
  refine zK_op rfl rfl ?_
  refine zK_gRl (b := 252) rfl rfl rfl hT ?_
  refine zK_op rfl rfl ?_
  refine zK_x (fun j55 h56 h57 h58 => ?_)
  refine zK_aI rfl rfl hT h56 h57 h58 ?_
  refine zK_x (fun j59 h60 h61 h62 => ?_)
  refine zK_sI (a := 261) (g := (fun x => x)) rfl rfl hT h60 h61 h62 rfl (fun m63 T64 => ?_)
  refine zK_op rfl rfl ?_
  refine zK_gRl (b := 250) rfl rfl rfl T64 ?_
  refine zK_op rfl rfl ?_
  refine zK_op rfl rfl ?_
  refine zK_gRl (b := 255) rfl rfl rfl T64 ?_
  refine zK_op rfl rfl ?_
  refine zK_x (fun j65 h66 h67 h68 => ?_)
  refine zK_aI rfl rfl T64 h66 h67 h68 ?_
  refine zK_x (fun j69 h70 h71 h72 => ?_)
  refine zK_sI (a := 250) (g := (fun x => x)) rfl rfl T64 h70 h71 h72 rfl (fun m73 T74 => ?_)
  refine zK_op rfl rfl ?_
  refine zK_gRl (b := 263) rfl rfl rfl T74 ?_
  refine zK_op rfl rfl ?_
  refine zK_op rfl rfl ?_
  refine zK_op rfl rfl ?_
  refine zK_op rfl rfl ?_
  refine zK_op rfl rfl ?_
  refine zK_op rfl rfl ?_
  refine zK_x (fun j75 h76 h77 h78 => ?_)
  refine zK_sI (a := 263) (g := (vp_nar .boolean)) rfl rfl T74 h76 h77 h78 rfl (fun m79 T80 => ?_)
  refine zK_op rfl rfl ?_
  refine zK_op rfl rfl ?_
  exact hc31 v1 v2 (v3 + (1)) m79 T80
theorem zD192_31_ok {μ0 : xe_Mem} {δ : xe_Dy} {d : Nat} (hd : 2 ≤ d)  : ∀ n : Nat, ∀ (v1 : Int32) (v2 : Int32) (v3 : Int32) (μ : xe_Mem), zT zPr μ0 μ → zK zPr μ0 δ d 192 31 [some (.ref 203), some (.int v1), some (.int v2), some (.int v3)] [] μ (zD192_31  n v1 v2 v3 μ) := by
  intro n
  induction n with
  | zero => exact fun _ _ _ _ _  => fun o μ' h => by cases h
  | succ n ih => exact zD192_31_bok hd   ih
theorem zD192_2_bok {μ0 : xe_Mem} {δ : xe_Dy} {d : Nat} (hd : 2 ≤ d)  {c2 : Int32 → Int32 → xe_Mem → zO} (hc2 : ∀ (v1 : Int32) (v2 : Int32) (μ : xe_Mem), zT zPr μ0 μ → zK zPr μ0 δ d 192 2 [some (.ref 203), some (.int v1), some (.int v2), none] [] μ (c2 v1 v2 μ)) : ∀ (v1 : Int32) (v2 : Int32) (μ : xe_Mem), zT zPr μ0 μ → zK zPr μ0 δ d 192 2 [some (.ref 203), some (.int v1), some (.int v2), none] [] μ (zD192_2_b  c2 v1 v2 μ) := by
  intro v1 v2 μ hT
  unfold zD192_2_b
  refine zK_op rfl rfl ?_
  refine zK_op rfl rfl ?_
  refine zK_icge rfl (fun _ => ?_) (fun _ => ?_)
  · refine zK_op rfl rfl ?_
    refine zK_op rfl rfl ?_
    refine zK_gRl (b := 224) rfl rfl rfl hT ?_
    refine zK_op rfl rfl ?_
    refine zK_x (fun j1 h2 h3 h4 => ?_)
    refine zK_aI rfl rfl hT h2 h3 h4 ?_
    refine zK_cI rfl (as := [.ref 203, .int (xe_I μ 224 j1)]) (rest := []) rfl rfl (xe_rcvO (zT_sh hT rfl)) (Nat.le_of_ble_eq_true rfl) (Nat.le_of_ble_eq_true rfl) (by decide) (fun _ => rfl) (by omega) (zD190_ok (by omega) (xe_I μ 224 j1) μ hT) (fun x7 m5 T6 => ?_)
    refine zK_op rfl rfl ?_
    refine zK_op rfl rfl ?_
    refine zK_op rfl rfl ?_
    exact zD192_31_ok hd zfu v1 x7 0 m5 T6
  refine zK_op rfl rfl ?_
  refine zK_gRl (b := 250) rfl rfl rfl hT ?_
  refine zK_op rfl rfl ?_
  refine zK_op rfl rfl ?_
  refine zK_gRl (b := 256) rfl rfl rfl hT ?_
  refine zK_op rfl rfl ?_
  refine zK_op rfl rfl ?_
  refine zK_gRl (b := 219) rfl rfl rfl hT ?_
  refine zK_op rfl rfl ?_
  refine zK_x (fun j81 h82 h83 h84 => ?_)
  refine zK_aI rfl rfl hT h82 h83 h84 ?_
  refine zK_op rfl rfl ?_
  refine zK_op rfl rfl ?_
  refine zK_op rfl rfl ?_
  refine zK_x (fun j85 h86 h87 h88 => ?_)
  refine zK_aI rfl rfl hT h86 h87 h88 ?_
  refine zK_x (fun j89 h90 h91 h92 => ?_)
  refine zK_sI (a := 250) (g := (fun x => x)) rfl rfl hT h90 h91 h92 rfl (fun m93 T94 => ?_)
  refine zK_op rfl rfl ?_
  refine zK_op rfl rfl ?_
  exact hc2 v1 (v2 + (1)) m93 T94
theorem zD192_2_ok {μ0 : xe_Mem} {δ : xe_Dy} {d : Nat} (hd : 2 ≤ d)  : ∀ n : Nat, ∀ (v1 : Int32) (v2 : Int32) (μ : xe_Mem), zT zPr μ0 μ → zK zPr μ0 δ d 192 2 [some (.ref 203), some (.int v1), some (.int v2), none] [] μ (zD192_2  n v1 v2 μ) := by
  intro n
  induction n with
  | zero => exact fun _ _ _ _  => fun o μ' h => by cases h
  | succ n ih => exact zD192_2_bok hd   ih
theorem zD192_ok {μ0 : xe_Mem} {δ : xe_Dy} {d : Nat} (hd : 2 ≤ d) (a1 : Int32) (μ : xe_Mem) (hT : zT zPr μ0 μ) : zK zPr μ0 δ d 192 0 (xe_init [.ref 203, .int a1] (xM_L 192)) [] μ (zD192 a1 μ) := by
  unfold zD192
  show zK zPr μ0 δ d 192 0 [some (.ref 203), some (.int a1), none, none] [] μ _
  refine zK_op rfl rfl ?_
  refine zK_op rfl rfl ?_
  exact zD192_2_ok hd zfu a1 0 μ hT
