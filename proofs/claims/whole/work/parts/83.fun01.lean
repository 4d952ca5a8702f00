/-! methods as functions (by wip/whole/gen/dec.py) -/
/-! 37 LogicalTimes$Reader.refuse(Z)V -/
def zD37  (a0 : Int32) (μ : xe_Mem) : zO := if a0 = 0 then some (.inl none, μ) else zq_thr 12 μ
theorem zD37_ok {μ0 : xe_Mem} {δ : xe_Dy} {d : Nat} (hd : 0 ≤ d) (a0 : Int32) (μ : xe_Mem) (hT : zT zPc μ0 μ) : zK zPc μ0 δ d 37 0 (xe_init [.int a0] (xM_L 37)) [] μ (zD37 a0 μ) := by
  unfold zD37
  show zK zPc μ0 δ d 37 0 [some (.int a0)] [] μ _
  refine zK_op rfl rfl ?_
  refine zK_ifeq rfl (fun _ => ?_) (fun _ => ?_)
  · exact zK_ret0 rfl hT
  exact zK_thr (c := 12) rfl (by decide) (fun _ => rfl) hT
/-! 39 LogicalTimes$Names.find(J)I -/
def zD39_2_b (c2 : Nat → Int64 → Int32 → xe_Mem → zO) (v0 : Nat) (v1 : Int64) (v3 : Int32) (μ : xe_Mem) : zO := zq_o v0 3 <| if (xe_I μ v0 3) ≤ v3 then some (.inl (some (.int ((-1)))), μ) else zq_s (xe_R μ v0 0) fun b2 => zq_a b2 1 fun N4 => zq_x v3 N4 fun j5 => if (lg_cmp (xe_L μ b2 j5) v1) = 0 then some (.inl (some (.int v3)), μ) else c2 v0 v1 (v3 + (1)) μ
def zD39_2   : Nat → Nat → Int64 → Int32 → xe_Mem → zO
  | 0 => fun _ _ _ _  => none
  | n + 1 => zD39_2_b   (zD39_2   n)
def zD39  (a0 : Nat) (a1 : Int64) (μ : xe_Mem) : zO := zD39_2 zfu a0 a1 0 μ
theorem zD39_2_bok {μ0 : xe_Mem} {δ : xe_Dy} {d : Nat} (hd : 0 ≤ d)  {c2 : Nat → Int64 → Int32 → xe_Mem → zO} (hc2 : ∀ (v0 : Nat) (v1 : Int64) (v3 : Int32) (μ : xe_Mem), zT zPc μ0 μ → zK zPc μ0 δ d 39 2 [some (.ref v0), some (.long v1), none, some (.int v3)] [] μ (c2 v0 v1 v3 μ)) : ∀ (v0 : Nat) (v1 : Int64) (v3 : Int32) (μ : xe_Mem), zT zPc μ0 μ → zK zPc μ0 δ d 39 2 [some (.ref v0), some (.long v1), none, some (.int v3)] [] μ (zD39_2_b  c2 v0 v1 v3 μ) := by
  intro v0 v1 v3 μ hT
  unfold zD39_2_b
  refine zK_op rfl rfl ?_
  refine zK_op rfl rfl ?_
  refine zK_o (fun h1 ph1 => ?_)
  refine zK_gI rfl h1 hT ?_
  refine zK_icge rfl (fun _ => ?_) (fun _ => ?_)
  · refine zK_op rfl rfl ?_
    exact zK_ret1 rfl hT
  refine zK_op rfl rfl ?_
  refine zK_gRs rfl h1 hT (fun b2 => ?_)
  refine zK_op rfl rfl ?_
  refine zK_a (fun N4 h3 ph3 => ?_)
  refine zK_x (fun j5 h6 h7 h8 => ?_)
  refine zK_aL rfl h3 hT h6 h7 h8 ?_
  refine zK_op rfl rfl ?_
  refine zK_op rfl rfl ?_
  refine zK_ifne rfl (fun _ => ?_) (fun _ => ?_)
  · refine zK_op rfl rfl ?_
    exact zK_ret1 rfl hT
  refine zK_op rfl rfl ?_
  refine zK_op rfl rfl ?_
  exact hc2 v0 v1 (v3 + (1)) μ hT
theorem zD39_2_ok {μ0 : xe_Mem} {δ : xe_Dy} {d : Nat} (hd : 0 ≤ d)  : ∀ n : Nat, ∀ (v0 : Nat) (v1 : Int64) (v3 : Int32) (μ : xe_Mem), zT zPc μ0 μ → zK zPc μ0 δ d 39 2 [some (.ref v0), some (.long v1), none, some (.int v3)] [] μ (zD39_2  n v0 v1 v3 μ) := by
  intro n
  induction n with
  | zero => exact fun _ _ _ _ _  => fun o μ' h => by cases h
  | succ n ih => exact zD39_2_bok hd   ih
theorem zD39_ok {μ0 : xe_Mem} {δ : xe_Dy} {d : Nat} (hd : 0 ≤ d) (a0 : Nat) (a1 : Int64) (μ : xe_Mem) (hT : zT zPc μ0 μ) : zK zPc μ0 δ d 39 0 (xe_init [.ref a0, .long a1] (xM_L 39)) [] μ (zD39 a0 a1 μ) := by
  unfold zD39
  show zK zPc μ0 δ d 39 0 [some (.ref a0), some (.long a1), none, none] [] μ _
  refine zK_op rfl rfl ?_
  refine zK_op rfl rfl ?_
  exact zD39_2_ok hd zfu a0 a1 0 μ hT
/-! 40 LogicalTimes$Names.add(JII)V -/
def zD40_30 (μ : xe_Mem) : zO := some (.inl none, μ)
def zD40  (a0 : Nat) (a1 : Int64) (a2 : Int32) (a3 : Int32) (μ : xe_Mem) : zO := zq_o a0 3 <| zq_s (xe_R μ a0 0) fun b2 => zq_a b2 1 fun N4 => if (Int32.ofNat N4) ≤ (xe_I μ a0 3) then zD40_30 μ else zq_s (xe_R μ a0 0) fun b5 => zq_a b5 1 fun N7 => zq_x (xe_I μ a0 3) N7 fun j8 => zq_m (xe_setL μ b5 j8 a1) fun m12 => zq_s (xe_R m12 a0 1) fun b14 => zq_a b14 0 fun N16 => zq_x (xe_I m12 a0 3) N16 fun j17 => zq_m (xe_setI m12 b14 j17 a2) fun m21 => zq_s (xe_R m21 a0 2) fun b23 => zq_a b23 0 fun N25 => zq_x (xe_I m21 a0 3) N25 fun j26 => zq_m (xe_setI m21 b23 j26 a3) fun m30 => zq_m (xe_setI m30 a0 3 ((xe_I m30 a0 3) + 1)) fun m32 => zD40_30 m32
theorem zD40_30_ok {μ0 : xe_Mem} {δ : xe_Dy} {d : Nat} (hd : 0 ≤ d)  : ∀ (l0 : Option Value) (l1 : Option Value) (l3 : Option Value) (l4 : Option Value) (μ : xe_Mem), zT zPc μ0 μ → zK zPc μ0 δ d 40 30 [l0, l1, none, l3, l4] [] μ (zD40_30  μ) := by
  intro l0 l1 l3 l4 μ hT
  unfold zD40_30
  exact zK_ret0 rfl hT
theorem zD40_ok {μ0 : xe_Mem} {δ : xe_Dy} {d : Nat} (hd : 0 ≤ d) (a0 : Nat) (a1 : Int64) (a2 : Int32) (a3 : Int32) (μ : xe_Mem) (hT : zT zPc μ0 μ) : zK zPc μ0 δ d 40 0 (xe_init [.ref a0, .long a1, .int a2, .int a3] (xM_L 40)) [] μ (zD40 a0 a1 a2 a3 μ) := by
  unfold zD40
  show zK zPc μ0 δ d 40 0 [some (.ref a0), some (.long a1), none, some (.int a2), some (.int a3)] [] μ _
  refine zK_op rfl rfl ?_
  refine zK_o (fun h1 ph1 => ?_)
  refine zK_gI rfl h1 hT ?_
  refine zK_op rfl rfl ?_
  refine zK_gRs rfl h1 hT (fun b2 => ?_)
  refine zK_a (fun N4 h3 ph3 => ?_)
  refine zK_alen rfl h3 (by decide) hT ?_
  refine zK_icge rfl (fun _ => ?_) (fun _ => ?_)
  · exact zD40_30_ok hd _ _ _ _ μ hT
  refine zK_op rfl rfl ?_
  refine zK_gRs rfl h1 hT (fun b5 => ?_)
  refine zK_op rfl rfl ?_
  refine zK_gI rfl h1 hT ?_
  refine zK_op rfl rfl ?_
  refine zK_a (fun N7 h6 ph6 => ?_)
  refine zK_x (fun j8 h9 h10 h11 => ?_)
  refine zK_sL rfl h6 hT h9 h10 h11 ph6 (fun m12 T13 => ?_)
  refine zK_op rfl rfl ?_
  refine zK_gRs rfl h1 T13 (fun b14 => ?_)
  refine zK_op rfl rfl ?_
  refine zK_gI rfl h1 T13 ?_
  refine zK_op rfl rfl ?_
  refine zK_a (fun N16 h15 ph15 => ?_)
  refine zK_x (fun j17 h18 h19 h20 => ?_)
  refine zK_sI (a := b14) (g := (fun x => x)) rfl h15 T13 h18 h19 h20 ph15 (fun m21 T22 => ?_)
  refine zK_op rfl rfl ?_
  refine zK_gRs rfl h1 T22 (fun b23 => ?_)
  refine zK_op rfl rfl ?_
  refine zK_gI rfl h1 T22 ?_
  refine zK_op rfl rfl ?_
  refine zK_a (fun N25 h24 ph24 => ?_)
  refine zK_x (fun j26 h27 h28 h29 => ?_)
  refine zK_sI (a := b23) (g := (fun x => x)) rfl h24 T22 h27 h28 h29 ph24 (fun m30 T31 => ?_)
  refine zK_op rfl rfl ?_
  refine zK_op rfl rfl ?_
  refine zK_gI rfl h1 T31 ?_
  refine zK_op rfl rfl ?_
  refine zK_op rfl rfl ?_
  refine zK_pI rfl h1 T31 ph1 (fun m32 T33 => ?_)
  exact zD40_30_ok hd _ _ _ _ m32 T33
/-! 38 LogicalTimes$Reader.takeNewName(LLogicalTimes$Names;II)V -/
def zD38_16 (v1 : Nat) (v2 : Int32) (v3 : Int32) (s0 : Int32) (μ : xe_Mem) : zO := zq_cV (zD37 s0 μ) fun m4 => zq_x (xe_I m4 181 6) 3001 fun j6 => zq_o v1 3 <| zq_cV (zD40 v1 (xe_L m4 6 j6) v2 v3 m4) fun m11 => zq_m (xe_setI m11 181 6 ((xe_I m11 181 6) + 1)) fun m13 => some (.inl none, m13)
def zD38_13 (v1 : Nat) (v2 : Int32) (v3 : Int32) (μ : xe_Mem) : zO := zD38_16 v1 v2 v3 1 μ
def zD38  (a1 : Nat) (a2 : Int32) (a3 : Int32) (μ : xe_Mem) : zO := zq_cI (zD35 1000026 μ) fun x3 m1 => if x3 = 0 then zD38_13 a1 a2 a3 m1 else zq_x (xe_I m1 181 6) 3001 fun j15 => zq_o a1 3 <| zq_cI (zD39 a1 (xe_L m1 6 j15) m1) fun x22 m20 => if x22 < 0 then zD38_16 a1 a2 a3 0 m20 else zD38_13 a1 a2 a3 m20
theorem zD38_16_ok {μ0 : xe_Mem} {δ : xe_Dy} {d : Nat} (hd : 1 ≤ d)  : ∀ (v1 : Nat) (v2 : Int32) (v3 : Int32) (s0 : Int32) (μ : xe_Mem), zT zPc μ0 μ → zK zPc μ0 δ d 38 16 [some (.ref 181), some (.ref v1), some (.int v2), some (.int v3)] [.int s0] μ (zD38_16  v1 v2 v3 s0 μ) := by
  intro v1 v2 v3 s0 μ hT
  unfold zD38_16
  refine zK_cV rfl (as := [.int s0]) (rest := []) rfl rfl rfl (Nat.le_of_ble_eq_true rfl) (Nat.le_of_ble_eq_true rfl) (by decide) (fun _ => rfl) (by omega) (zD37_ok (by omega) s0 μ hT) (fun m4 T5 => ?_)
  refine zK_op rfl rfl ?_
  refine zK_op rfl rfl ?_
  refine zK_gRl (b := 3) rfl rfl rfl T5 ?_
  refine zK_gRl (b := 6) rfl rfl rfl T5 ?_
  refine zK_op rfl rfl ?_
  refine zK_gI rfl rfl T5 ?_
  refine zK_x (fun j6 h7 h8 h9 => ?_)
  refine zK_aL rfl rfl T5 h7 h8 h9 ?_
  refine zK_op rfl rfl ?_
  refine zK_op rfl rfl ?_
  refine zK_o (fun h10 ph10 => ?_)
  refine zK_cV rfl (as := [.ref v1, .long (xe_L m4 6 j6), .int v2, .int v3]) (rest := []) rfl rfl (xe_rcvO (zT_sh T5 h10)) (Nat.le_of_ble_eq_true rfl) (Nat.le_of_ble_eq_true rfl) (by decide) (fun _ => rfl) (by omega) (zD40_ok (by omega) v1 (xe_L m4 6 j6) v2 v3 m4 T5) (fun m11 T12 => ?_)
  refine zK_op rfl rfl ?_
  refine zK_op rfl rfl ?_
  refine zK_gI rfl rfl T12 ?_
  refine zK_op rfl rfl ?_
  refine zK_op rfl rfl ?_
  refine zK_pI rfl rfl T12 rfl (fun m13 T14 => ?_)
  exact zK_ret0 rfl T14
theorem zD38_13_ok {μ0 : xe_Mem} {δ : xe_Dy} {d : Nat} (hd : 1 ≤ d)  : ∀ (v1 : Nat) (v2 : Int32) (v3 : Int32) (μ : xe_Mem), zT zPc μ0 μ → zK zPc μ0 δ d 38 13 [some (.ref 181), some (.ref v1), some (.int v2), some (.int v3)] [] μ (zD38_13  v1 v2 v3 μ) := by
  intro v1 v2 v3 μ hT
  unfold zD38_13
  refine zK_op rfl rfl ?_
  refine zK_op rfl rfl ?_
  exact zD38_16_ok hd v1 v2 v3 1 μ hT
theorem zD38_ok {μ0 : xe_Mem} {δ : xe_Dy} {d : Nat} (hd : 1 ≤ d) (a1 : Nat) (a2 : Int32) (a3 : Int32) (μ : xe_Mem) (hT : zT zPc μ0 μ) : zK zPc μ0 δ d 38 0 (xe_init [.ref 181, .ref a1, .int a2, .int a3] (xM_L 38)) [] μ (zD38 a1 a2 a3 μ) := by
  unfold zD38
  show zK zPc μ0 δ d 38 0 [some (.ref 181), some (.ref a1), some (.int a2), some (.int a3)] [] μ _
  refine zK_op rfl rfl ?_
  refine zK_op rfl rfl ?_
  refine zK_cI rfl (as := [.ref 181, .ref 1000026]) (rest := []) rfl rfl (xe_rcvO (zT_sh hT rfl)) (Nat.le_of_ble_eq_true rfl) (Nat.le_of_ble_eq_true rfl) (by decide) (fun _ => rfl) (by omega) (zD35_ok (by omega) 1000026 μ hT) (fun x3 m1 T2 => ?_)
  refine zK_ifeq rfl (fun _ => ?_) (fun _ => ?_)
  · exact zD38_13_ok hd a1 a2 a3 m1 T2
  refine zK_op rfl rfl ?_
  refine zK_op rfl rfl ?_
  refine zK_gRl (b := 3) rfl rfl rfl T2 ?_
  refine zK_gRl (b := 6) rfl rfl rfl T2 ?_
  refine zK_op rfl rfl ?_
  refine zK_gI rfl rfl T2 ?_
  refine zK_x (fun j15 h16 h17 h18 => ?_)
  refine zK_aL rfl rfl T2 h16 h17 h18 ?_
  refine zK_o (fun h19 ph19 => ?_)
  refine zK_cI rfl (as := [.ref a1, .long (xe_L m1 6 j15)]) (rest := []) rfl rfl (xe_rcvO (zT_sh T2 h19)) (Nat.le_of_ble_eq_true rfl) (Nat.le_of_ble_eq_true rfl) (by decide) (fun _ => rfl) (by omega) (zD39_ok (by omega) a1 (xe_L m1 6 j15) m1 T2) (fun x22 m20 T21 => ?_)
  refine zK_iflt rfl (fun _ => ?_) (fun _ => ?_)
  · refine zK_op rfl rfl ?_
    exact zD38_16_ok hd a1 a2 a3 0 m20 T21
  exact zD38_13_ok hd a1 a2 a3 m20 T21
/-! 41 LogicalTimes$Reader.take(LLogicalTimes$Kind;)V -/
def zD41  (a1 : Nat) (μ : xe_Mem) : zO := zq_x (xe_I μ 181 6) 3001 fun j1 => zq_s (xe_R μ 4 j1) fun b5 => zq_k b5 <| zq_k a1 <| if b5 = a1 then zq_m (xe_setI μ 181 6 ((xe_I μ 181 6) + 1)) fun m8 => some (.inl none, m8) else zq_thr 12 μ
theorem zD41_ok {μ0 : xe_Mem} {δ : xe_Dy} {d : Nat} (hd : 0 ≤ d) (a1 : Nat) (μ : xe_Mem) (hT : zT zPc μ0 μ) : zK zPc μ0 δ d 41 0 (xe_init [.ref 181, .ref a1] (xM_L 41)) [] μ (zD41 a1 μ) := by
  unfold zD41
  show zK zPc μ0 δ d 41 0 [some (.ref 181), some (.ref a1)] [] μ _
  refine zK_op rfl rfl ?_
  refine zK_gRl (b := 3) rfl rfl rfl hT ?_
  refine zK_gRl (b := 4) rfl rfl rfl hT ?_
  refine zK_op rfl rfl ?_
  refine zK_gI rfl rfl hT ?_
  refine zK_x (fun j1 h2 h3 h4 => ?_)
  refine zK_aR rfl rfl hT h2 h3 h4 (fun b5 => ?_)
  refine zK_op rfl rfl ?_
  refine zK_k (fun h6 => ?_)
  refine zK_k (fun h7 => ?_)
  refine zK_aceq rfl h6 h7 (fun _ => ?_) (fun _ => ?_)
  · refine zK_op rfl rfl ?_
    refine zK_op rfl rfl ?_
    refine zK_gI rfl rfl hT ?_
    refine zK_op rfl rfl ?_
    refine zK_op rfl rfl ?_
    refine zK_pI rfl rfl hT rfl (fun m8 T9 => ?_)
    exact zK_ret0 rfl T9
  exact zK_thr (c := 12) rfl (by decide) (fun _ => rfl) hT
/-! 42 LogicalTimes$Reader.takeNumber(II)I -/
def zD42_27 (v2 : Int32) (s0 : Int32) (μ : xe_Mem) : zO := zq_cV (zD37 s0 μ) fun m4 => zq_x (xe_I m4 181 6) 3001 fun j6 => zq_vI ((xe_L m4 6 j6).toInt32) fun x10 => zq_m (xe_setI m4 181 6 ((xe_I m4 181 6) + 1)) fun m11 => some (.inl (some (.int x10)), m11)
def zD42_24 (v2 : Int32) (μ : xe_Mem) : zO := zD42_27 v2 1 μ
def zD42  (a1 : Int32) (a2 : Int32) (μ : xe_Mem) : zO := zq_cI (zD35 1000027 μ) fun x3 m1 => if x3 = 0 then zD42_24 a2 m1 else zq_x (xe_I m1 181 6) 3001 fun j13 => if (lg_cmp (xe_L m1 6 j13) a1.toInt64) < 0 then zD42_24 a2 m1 else zq_x (xe_I m1 181 6) 3001 fun j17 => if (lg_cmp (xe_L m1 6 j17) a2.toInt64) ≤ 0 then zD42_27 a2 0 m1 else zD42_24 a2 m1
theorem zD42_27_ok {μ0 : xe_Mem} {δ : xe_Dy} {d : Nat} (hd : 1 ≤ d)  : ∀ (v2 : Int32) (s0 : Int32) (l1 : Option Value) (μ : xe_Mem), zT zPc μ0 μ → zK zPc μ0 δ d 42 27 [some (.ref 181), l1, some (.int v2), none] [.int s0] μ (zD42_27  v2 s0 μ) := by
  intro v2 s0 l1 μ hT
  unfold zD42_27
  refine zK_cV rfl (as := [.int s0]) (rest := []) rfl rfl rfl (Nat.le_of_ble_eq_true rfl) (Nat.le_of_ble_eq_true rfl) (by decide) (fun _ => rfl) (by omega) (zD37_ok (by omega) s0 μ hT) (fun m4 T5 => ?_)
  refine zK_op rfl rfl ?_
  refine zK_gRl (b := 3) rfl rfl rfl T5 ?_
  refine zK_gRl (b := 6) rfl rfl rfl T5 ?_
  refine zK_op rfl rfl ?_
  refine zK_gI rfl rfl T5 ?_
  refine zK_x (fun j6 h7 h8 h9 => ?_)
  refine zK_aL rfl rfl T5 h7 h8 h9 ?_
  refine zK_op rfl rfl ?_
  refine zK_vI (fun x10 => ?_)
  refine zK_op rfl rfl ?_
  refine zK_op rfl rfl ?_
  refine zK_op rfl rfl ?_
  refine zK_gI rfl rfl T5 ?_
  refine zK_op rfl rfl ?_
  refine zK_op rfl rfl ?_
  refine zK_pI rfl rfl T5 rfl (fun m11 T12 => ?_)
  refine zK_op rfl rfl ?_
  exact zK_ret1 rfl T12
theorem zD42_24_ok {μ0 : xe_Mem} {δ : xe_Dy} {d : Nat} (hd : 1 ≤ d)  : ∀ (v2 : Int32) (l1 : Option Value) (μ : xe_Mem), zT zPc μ0 μ → zK zPc μ0 δ d 42 24 [some (.ref 181), l1, some (.int v2), none] [] μ (zD42_24  v2 μ) := by
  intro v2 l1 μ hT
  unfold zD42_24
  refine zK_op rfl rfl ?_
  refine zK_op rfl rfl ?_
  exact zD42_27_ok hd v2 1 _ μ hT
theorem zD42_ok {μ0 : xe_Mem} {δ : xe_Dy} {d : Nat} (hd : 1 ≤ d) (a1 : Int32) (a2 : Int32) (μ : xe_Mem) (hT : zT zPc μ0 μ) : zK zPc μ0 δ d 42 0 (xe_init [.ref 181, .int a1, .int a2] (xM_L 42)) [] μ (zD42 a1 a2 μ) := by
  unfold zD42
  show zK zPc μ0 δ d 42 0 [some (.ref 181), some (.int a1), some (.int a2), none] [] μ _
  refine zK_op rfl rfl ?_
  refine zK_op rfl rfl ?_
  refine zK_cI rfl (as := [.ref 181, .ref 1000027]) (rest := []) rfl rfl (xe_rcvO (zT_sh hT rfl)) (Nat.le_of_ble_eq_true rfl) (Nat.le_of_ble_eq_true rfl) (by decide) (fun _ => rfl) (by omega) (zD35_ok (by omega) 1000027 μ hT) (fun x3 m1 T2 => ?_)
  refine zK_ifeq rfl (fun _ => ?_) (fun _ => ?_)
  · exact zD42_24_ok hd a2 _ m1 T2
  refine zK_op rfl rfl ?_
  refine zK_gRl (b := 3) rfl rfl rfl T2 ?_
  refine zK_gRl (b := 6) rfl rfl rfl T2 ?_
  refine zK_op rfl rfl ?_
  refine zK_gI rfl rfl T2 ?_
  refine zK_x (fun j13 h14 h15 h16 => ?_)
  refine zK_aL rfl rfl T2 h14 h15 h16 ?_
  refine zK_op rfl rfl ?_
  refine zK_op rfl rfl ?_
  refine zK_op rfl rfl ?_
  refine zK_iflt rfl (fun _ => ?_) (fun _ => ?_)
  · exact zD42_24_ok hd a2 _ m1 T2
  refine zK_op rfl rfl ?_
  refine zK_gRl (b := 3) rfl rfl rfl T2 ?_
  refine zK_gRl (b := 6) rfl rfl rfl T2 ?_
  refine zK_op rfl rfl ?_
  refine zK_gI rfl rfl T2 ?_
  refine zK_x (fun j17 h18 h19 h20 => ?_)
  refine zK_aL rfl rfl T2 h18 h19 h20 ?_
  refine zK_op rfl rfl ?_
  refine zK_op rfl rfl ?_
  refine zK_op rfl rfl ?_
  refine zK_ifle rfl (fun _ => ?_) (fun _ => ?_)
  · refine zK_op rfl rfl ?_
    exact zD42_27_ok hd a2 0 _ m1 T2
  exact zD42_24_ok hd a2 _ m1 T2
/-! 43 LogicalTimes$Program.addPort(I)V -/
def zD43  (a1 : Int32) (μ : xe_Mem) : zO := zq_x (xe_I μ 7 4) 12 fun j1 => zq_m (xe_setI μ 14 j1 a1) fun m5 => zq_m (xe_setI m5 7 4 ((xe_I m5 7 4) + 1)) fun m7 => some (.inl none, m7)
theorem zD43_ok {μ0 : xe_Mem} {δ : xe_Dy} {d : Nat} (hd : 0 ≤ d) (a1 : Int32) (μ : xe_Mem) (hT : zT zPc μ0 μ) : zK zPc μ0 δ d 43 0 (xe_init [.ref 7, .int a1] (xM_L 43)) [] μ (zD43 a1 μ) := by
  unfold zD43
  show zK zPc μ0 δ d 43 0 [some (.ref 7), some (.int a1)] [] μ _
  refine zK_op rfl rfl ?_
  refine zK_gRl (b := 14) rfl rfl rfl hT ?_
  refine zK_op rfl rfl ?_
  refine zK_gI rfl rfl hT ?_
  refine zK_op rfl rfl ?_
  refine zK_x (fun j1 h2 h3 h4 => ?_)
  refine zK_sI (a := 14) (g := (fun x => x)) rfl rfl hT h2 h3 h4 rfl (fun m5 T6 => ?_)
  refine zK_op rfl rfl ?_
  refine zK_op rfl rfl ?_
  refine zK_gI rfl rfl T6 ?_
  refine zK_op rfl rfl ?_
  refine zK_op rfl rfl ?_
  refine zK_pI rfl rfl T6 rfl (fun m7 T8 => ?_)
  exact zK_ret0 rfl T8
/-! 36 LogicalTimes$Reader.readDeclaration()V -/
def zD36_68 (μ : xe_Mem) : zO := zq_cV (zD41 1000014 μ) fun m12 => some (.inl none, m12)
def zD36_47 (v1 : Int32) (s2 : Int32) (s3 : Int32) (μ : xe_Mem) : zO := zq_cV (zD38 182 s2 s3 μ) fun m8 => if v1 = 0 then zq_m (xe_setI m8 7 5 ((xe_I m8 7 5) + 1)) fun m10 => zD36_68 m10 else zq_cV (zD41 1000016 m8) fun m14 => zq_cI (zD42 0 999999 m14) fun x18 m16 => zq_cV (zD43 x18 m16) fun m19 => zD36_68 m19
def zD36_38 (v1 : Int32) (s2 : Int32) (μ : xe_Mem) : zO := if v1 = 0 then zD36_47 v1 s2 (xe_I μ 7 5) μ else zD36_47 v1 s2 (xe_I μ 7 4) μ
def zD36_23 (v1 : Int32) (s0 : Int32) (μ : xe_Mem) : zO := zq_cV (zD37 s0 μ) fun m4 => zq_m (xe_setI m4 181 6 ((xe_I m4 181 6) + 1)) fun m6 => if v1 = 0 then zD36_38 v1 3 m6 else zD36_38 v1 2 m6
def zD36   (μ : xe_Mem) : zO := zq_cI (zD35 1000001 μ) fun x3 m1 => if x3 = 0 then if (xe_I m1 7 5) = 4 then zD36_23 x3 1 m1 else zD36_23 x3 0 m1 else if (xe_I m1 7 4) = 12 then zD36_23 x3 1 m1 else zD36_23 x3 0 m1
theorem zD36_68_ok {μ0 : xe_Mem} {δ : xe_Dy} {d : Nat} (hd : 2 ≤ d)  : ∀ (l1 : Option Value) (μ : xe_Mem), zT zPc μ0 μ → zK zPc μ0 δ d 36 68 [some (.ref 181), l1] [] μ (zD36_68  μ) := by
  intro l1 μ hT
  unfold zD36_68
  refine zK_op rfl rfl ?_
  refine zK_op rfl rfl ?_
  refine zK_cV rfl (as := [.ref 181, .ref 1000014]) (rest := []) rfl rfl (xe_rcvO (zT_sh hT rfl)) (Nat.le_of_ble_eq_true rfl) (Nat.le_of_ble_eq_true rfl) (by decide) (fun _ => rfl) (by omega) (zD41_ok (by omega) 1000014 μ hT) (fun m12 T13 => ?_)
  exact zK_ret0 rfl T13
theorem zD36_47_ok {μ0 : xe_Mem} {δ : xe_Dy} {d : Nat} (hd : 2 ≤ d)  : ∀ (v1 : Int32) (s2 : Int32) (s3 : Int32) (μ : xe_Mem), zT zPc μ0 μ → zK zPc μ0 δ d 36 47 [some (.ref 181), some (.int v1)] [.int s3, .int s2, .ref 182, .ref 181] μ (zD36_47  v1 s2 s3 μ) := by
  intro v1 s2 s3 μ hT
  unfold zD36_47
  refine zK_cV rfl (as := [.ref 181, .ref 182, .int s2, .int s3]) (rest := []) rfl rfl (xe_rcvO (zT_sh hT rfl)) (Nat.le_of_ble_eq_true rfl) (Nat.le_of_ble_eq_true rfl) (by decide) (fun _ => rfl) (by omega) (zD38_ok (by omega) 182 s2 s3 μ hT) (fun m8 T9 => ?_)
  refine zK_op rfl rfl ?_
  refine zK_ifeq rfl (fun _ => ?_) (fun _ => ?_)
  · refine zK_op rfl rfl ?_
    refine zK_gRl (b := 7) rfl rfl rfl T9 ?_
    refine zK_op rfl rfl ?_
    refine zK_gI rfl rfl T9 ?_
    refine zK_op rfl rfl ?_
    refine zK_op rfl rfl ?_
    refine zK_pI rfl rfl T9 rfl (fun m10 T11 => ?_)
    exact zD36_68_ok hd _ m10 T11
  refine zK_op rfl rfl ?_
  refine zK_op rfl rfl ?_
  refine zK_cV rfl (as := [.ref 181, .ref 1000016]) (rest := []) rfl rfl (xe_rcvO (zT_sh T9 rfl)) (Nat.le_of_ble_eq_true rfl) (Nat.le_of_ble_eq_true rfl) (by decide) (fun _ => rfl) (by omega) (zD41_ok (by omega) 1000016 m8 T9) (fun m14 T15 => ?_)
  refine zK_op rfl rfl ?_
  refine zK_gRl (b := 7) rfl rfl rfl T15 ?_
  refine zK_op rfl rfl ?_
  refine zK_op rfl rfl ?_
  refine zK_op rfl rfl ?_
  refine zK_cI rfl (as := [.ref 181, .int 0, .int 999999]) (rest := [.ref 7]) rfl rfl (xe_rcvO (zT_sh T15 rfl)) (Nat.le_of_ble_eq_true rfl) (Nat.le_of_ble_eq_true rfl) (by decide) (fun _ => rfl) (by omega) (zD42_ok (by omega) 0 999999 m14 T15) (fun x18 m16 T17 => ?_)
  refine zK_cV rfl (as := [.ref 7, .int x18]) (rest := []) rfl rfl (xe_rcvO (zT_sh T17 rfl)) (Nat.le_of_ble_eq_true rfl) (Nat.le_of_ble_eq_true rfl) (by decide) (fun _ => rfl) (by omega) (zD43_ok (by omega) x18 m16 T17) (fun m19 T20 => ?_)
  refine zK_op rfl rfl ?_
  exact zD36_68_ok hd _ m19 T20
theorem zD36_38_ok {μ0 : xe_Mem} {δ : xe_Dy} {d : Nat} (hd : 2 ≤ d)  : ∀ (v1 : Int32) (s2 : Int32) (μ : xe_Mem), zT zPc μ0 μ → zK zPc μ0 δ d 36 38 [some (.ref 181), some (.int v1)] [.int s2, .ref 182, .ref 181] μ (zD36_38  v1 s2 μ) := by
  intro v1 s2 μ hT
  unfold zD36_38
  refine zK_op rfl rfl ?_
  refine zK_ifeq rfl (fun _ => ?_) (fun _ => ?_)
  · refine zK_op rfl rfl ?_
    refine zK_gRl (b := 7) rfl rfl rfl hT ?_
    refine zK_gI rfl rfl hT ?_
    exact zD36_47_ok hd v1 s2 (xe_I μ 7 5) μ hT
  refine zK_op rfl rfl ?_
  refine zK_gRl (b := 7) rfl rfl rfl hT ?_
  refine zK_gI rfl rfl hT ?_
  refine zK_op rfl rfl ?_
  exact zD36_47_ok hd v1 s2 (xe_I μ 7 4) μ hT
theorem zD36_23_ok {μ0 : xe_Mem} {δ : xe_Dy} {d : Nat} (hd : 2 ≤ d)  : ∀ (v1 : Int32) (s0 : Int32) (μ : xe_Mem), zT zPc μ0 μ → zK zPc μ0 δ d 36 23 [some (.ref 181), some (.int v1)] [.int s0] μ (zD36_23  v1 s0 μ) := by
  intro v1 s0 μ hT
  unfold zD36_23
  refine zK_cV rfl (as := [.int s0]) (rest := []) rfl rfl rfl (Nat.le_of_ble_eq_true rfl) (Nat.le_of_ble_eq_true rfl) (by decide) (fun _ => rfl) (by omega) (zD37_ok (by omega) s0 μ hT) (fun m4 T5 => ?_)
  refine zK_op rfl rfl ?_
  refine zK_op rfl rfl ?_
  refine zK_gI rfl rfl T5 ?_
  refine zK_op rfl rfl ?_
  refine zK_op rfl rfl ?_
  refine zK_pI rfl rfl T5 rfl (fun m6 T7 => ?_)
  refine zK_op rfl rfl ?_
  refine zK_op rfl rfl ?_
  refine zK_gRl (b := 182) rfl rfl rfl T7 ?_
  refine zK_op rfl rfl ?_
  refine zK_ifeq rfl (fun _ => ?_) (fun _ => ?_)
  · refine zK_op rfl rfl ?_
    exact zD36_38_ok hd v1 3 m6 T7
  refine zK_op rfl rfl ?_
  refine zK_op rfl rfl ?_
  exact zD36_38_ok hd v1 2 m6 T7
theorem zD36_ok {μ0 : xe_Mem} {δ : xe_Dy} {d : Nat} (hd : 2 ≤ d) (μ : xe_Mem) (hT : zT zPc μ0 μ) : zK zPc μ0 δ d 36 0 (xe_init [.ref 181] (xM_L 36)) [] μ (zD36 μ) := by
  unfold zD36
  show zK zPc μ0 δ d 36 0 [some (.ref 181), none] [] μ _
  refine zK_op rfl rfl ?_
  refine zK_op rfl rfl ?_
  refine zK_cI rfl (as := [.ref 181, .ref 1000001]) (rest := []) rfl rfl (xe_rcvO (zT_sh hT rfl)) (Nat.le_of_ble_eq_true rfl) (Nat.le_of_ble_eq_true rfl) (by decide) (fun _ => rfl) (by omega) (zD35_ok (by omega) 1000001 μ hT) (fun x3 m1 T2 => ?_)
  refine zK_op rfl rfl ?_
  refine zK_op rfl rfl ?_
  refine zK_ifeq rfl (fun _ => ?_) (fun _ => ?_)
  · refine zK_op rfl rfl ?_
    refine zK_gRl (b := 7) rfl rfl rfl T2 ?_
    refine zK_gI rfl rfl T2 ?_
    refine zK_op rfl rfl ?_
    refine zK_icne rfl (fun _ => ?_) (fun _ => ?_)
    · refine zK_op rfl rfl ?_
      refine zK_op rfl rfl ?_
      exact zD36_23_ok hd x3 1 m1 T2
    refine zK_op rfl rfl ?_
    exact zD36_23_ok hd x3 0 m1 T2
  refine zK_op rfl rfl ?_
  refine zK_gRl (b := 7) rfl rfl rfl T2 ?_
  refine zK_gI rfl rfl T2 ?_
  refine zK_op rfl rfl ?_
  refine zK_icne rfl (fun _ => ?_) (fun _ => ?_)
  · refine zK_op rfl rfl ?_
    refine zK_op rfl rfl ?_
    exact zD36_23_ok hd x3 1 m1 T2
  refine zK_op rfl rfl ?_
  refine zK_op rfl rfl ?_
  exact zD36_23_ok hd x3 0 m1 T2
/-! 46 LogicalTimes$Mode.renew(I)V -/
def zD46_17_b (c17 : Nat → Int32 → Int32 → xe_Mem → zO) (v0 : Nat) (v1 : Int32) (v2 : Int32) (μ : xe_Mem) : zO := zq_o v0 2 <| zq_s (xe_R μ v0 7) fun b13 => zq_a b13 3 fun N15 => if (Int32.ofNat N15) ≤ v2 then some (.inl none, μ) else zq_s (xe_R μ v0 7) fun b16 => zq_a b16 3 fun N18 => zq_x v2 N18 fun j19 => zq_m (xe_setI μ b16 j19 ((vp_nar .boolean) 0)) fun m23 => c17 v0 v1 (v2 + (1)) m23
def zD46_17   : Nat → Nat → Int32 → Int32 → xe_Mem → zO
  | 0 => fun _ _ _ _  => none
  | n + 1 => zD46_17_b   (zD46_17   n)
def zD46  (a0 : Nat) (a1 : Int32) (μ : xe_Mem) : zO := zq_o a0 2 <| zq_m (xe_setI μ a0 1 a1) fun m2 => zq_m (xe_setI m2 a0 3 0) fun m4 => zq_m (xe_setI m4 a0 4 0) fun m6 => zq_m (xe_setI m6 a0 6 0) fun m8 => zq_m (xe_setI m8 a0 10 0) fun m10 => zD46_17 zfu a0 a1 0 m10
theorem zD46_17_bok {μ0 : xe_Mem} {δ : xe_Dy} {d : Nat} (hd : 0 ≤ d)  {c17 : Nat → Int32 → Int32 → xe_Mem → zO} (hc17 : ∀ (v0 : Nat) (v1 : Int32) (v2 : Int32) (μ : xe_Mem), zT zPc μ0 μ → zK zPc μ0 δ d 46 17 [some (.ref v0), some (.int v1), some (.int v2)] [] μ (c17 v0 v1 v2 μ)) : ∀ (v0 : Nat) (v1 : Int32) (v2 : Int32) (μ : xe_Mem), zT zPc μ0 μ → zK zPc μ0 δ d 46 17 [some (.ref v0), some (.int v1), some (.int v2)] [] μ (zD46_17_b  c17 v0 v1 v2 μ) := by
  intro v0 v1 v2 μ hT
  unfold zD46_17_b
  refine zK_op rfl rfl ?_
  refine zK_op rfl rfl ?_
  refine zK_o (fun h12 ph12 => ?_)
  refine zK_gRs rfl h12 hT (fun b13 => ?_)
  refine zK_a (fun N15 h14 ph14 => ?_)
  refine zK_alen rfl h14 (by decide) hT ?_
  refine zK_icge rfl (fun _ => ?_) (fun _ => ?_)
  · exact zK_ret0 rfl hT
  refine zK_op rfl rfl ?_
  refine zK_gRs rfl h12 hT (fun b16 => ?_)
  refine zK_op rfl rfl ?_
  refine zK_op rfl rfl ?_
  refine zK_a (fun N18 h17 ph17 => ?_)
  refine zK_x (fun j19 h20 h21 h22 => ?_)
  refine zK_sI (a := b16) (g := (vp_nar .boolean)) rfl h17 hT h20 h21 h22 ph17 (fun m23 T24 => ?_)
  refine zK_op rfl rfl ?_
  refine zK_op rfl rfl ?_
  exact hc17 v0 v1 (v2 + (1)) m23 T24
theorem zD46_17_ok {μ0 : xe_Mem} {δ : xe_Dy} {d : Nat} (hd : 0 ≤ d)  : ∀ n : Nat, ∀ (v0 : Nat) (v1 : Int32) (v2 : Int32) (μ : xe_Mem), zT zPc μ0 μ → zK zPc μ0 δ d 46 17 [some (.ref v0), some (.int v1), some (.int v2)] [] μ (zD46_17  n v0 v1 v2 μ) := by
  intro n
  induction n with
  | zero => exact fun _ _ _ _ _  => fun o μ' h => by cases h
  | succ n ih => exact zD46_17_bok hd   ih
theorem zD46_ok {μ0 : xe_Mem} {δ : xe_Dy} {d : Nat} (hd : 0 ≤ d) (a0 : Nat) (a1 : Int32) (μ : xe_Mem) (hT : zT zPc μ0 μ) : zK zPc μ0 δ d 46 0 (xe_init [.ref a0, .int a1] (xM_L 46)) [] μ (zD46 a0 a1 μ) := by
  unfold zD46
  show zK zPc μ0 δ d 46 0 [some (.ref a0), some (.int a1), none] [] μ _
  refine zK_op rfl rfl ?_
  refine zK_op rfl rfl ?_
  refine zK_o (fun h1 ph1 => ?_)
  refine zK_pI rfl h1 hT ph1 (fun m2 T3 => ?_)
  refine zK_op rfl rfl ?_
  refine zK_op rfl rfl ?_
  refine zK_pI rfl h1 T3 ph1 (fun m4 T5 => ?_)
  refine zK_op rfl rfl ?_
  refine zK_op rfl rfl ?_
  refine zK_pI rfl h1 T5 ph1 (fun m6 T7 => ?_)
  refine zK_op rfl rfl ?_
  refine zK_op rfl rfl ?_
  refine zK_pI rfl h1 T7 ph1 (fun m8 T9 => ?_)
  refine zK_op rfl rfl ?_
  refine zK_op rfl rfl ?_
  refine zK_pI rfl h1 T9 ph1 (fun m10 T11 => ?_)
  refine zK_op rfl rfl ?_
  refine zK_op rfl rfl ?_
  exact zD46_17_ok hd zfu a0 a1 0 m10 T11
/-! 45 LogicalTimes$Program.addMode(I)LLogicalTimes$Mode; -/
def zD45  (a1 : Int32) (μ : xe_Mem) : zO := zq_x (xe_I μ 7 6) 4 fun j1 => zq_s (xe_R μ 15 j1) fun b5 => zq_o b5 2 <| zq_cV (zD46 b5 a1 μ) fun m7 => zq_m (xe_setI m7 7 6 ((xe_I m7 7 6) + 1)) fun m9 => some (.inl (some (.ref b5)), m9)
theorem zD45_ok {μ0 : xe_Mem} {δ : xe_Dy} {d : Nat} (hd : 1 ≤ d) (a1 : Int32) (μ : xe_Mem) (hT : zT zPc μ0 μ) : zK zPc μ0 δ d 45 0 (xe_init [.ref 7, .int a1] (xM_L 45)) [] μ (zD45 a1 μ) := by
  unfold zD45
  show zK zPc μ0 δ d 45 0 [some (.ref 7), some (.int a1), none] [] μ _
  refine zK_op rfl rfl ?_
  refine zK_gRl (b := 15) rfl rfl rfl hT ?_
  refine zK_op rfl rfl ?_
  refine zK_gI rfl rfl hT ?_
  refine zK_x (fun j1 h2 h3 h4 => ?_)
  refine zK_aR rfl rfl hT h2 h3 h4 (fun b5 => ?_)
  refine zK_op rfl rfl ?_
  refine zK_op rfl rfl ?_
  refine zK_op rfl rfl ?_
  refine zK_o (fun h6 ph6 => ?_)
  refine zK_cV rfl (as := [.ref b5, .int a1]) (rest := []) rfl rfl (xe_rcvO (zT_sh hT h6)) (Nat.le_of_ble_eq_true rfl) (Nat.le_of_ble_eq_true rfl) (by decide) (fun _ => rfl) (by omega) (zD46_ok (by omega) b5 a1 μ hT) (fun m7 T8 => ?_)
  refine zK_op rfl rfl ?_
  refine zK_op rfl rfl ?_
  refine zK_gI rfl rfl T8 ?_
  refine zK_op rfl rfl ?_
  refine zK_op rfl rfl ?_
  refine zK_pI rfl rfl T8 rfl (fun m9 T10 => ?_)
  refine zK_op rfl rfl ?_
  exact zK_ret4 rfl T10
/-! 49 LogicalTimes$Mode.spansGoInto(I)Z -/
def zD49_2_b (c2 : Nat → Int32 → Int32 → xe_Mem → zO) (v0 : Nat) (v1 : Int32) (v2 : Int32) (μ : xe_Mem) : zO := zq_o v0 2 <| if (xe_I μ v0 3) ≤ v2 then some (.inl (some (.int 1)), μ) else zq_s (xe_R μ v0 2) fun b2 => zq_a b2 4 fun N4 => zq_x v2 N4 fun j5 => zq_s (xe_R μ b2 j5) fun b9 => zq_o b9 8 <| zq_d (xe_I μ b9 3) <| if (v1 - v1 / (xe_I μ b9 3) * (xe_I μ b9 3)) = 0 then c2 v0 v1 (v2 + (1)) μ else some (.inl (some (.int 0)), μ)
def zD49_2   : Nat → Nat → Int32 → Int32 → xe_Mem → zO
  | 0 => fun _ _ _ _  => none
  | n + 1 => zD49_2_b   (zD49_2   n)
def zD49  (a0 : Nat) (a1 : Int32) (μ : xe_Mem) : zO := zD49_2 zfu a0 a1 0 μ
theorem zD49_2_bok {μ0 : xe_Mem} {δ : xe_Dy} {d : Nat} (hd : 0 ≤ d)  {c2 : Nat → Int32 → Int32 → xe_Mem → zO} (hc2 : ∀ (v0 : Nat) (v1 : Int32) (v2 : Int32) (μ : xe_Mem), zT zPc μ0 μ → zK zPc μ0 δ d 49 2 [some (.ref v0), some (.int v1), some (.int v2)] [] μ (c2 v0 v1 v2 μ)) : ∀ (v0 : Nat) (v1 : Int32) (v2 : Int32) (μ : xe_Mem), zT zPc μ0 μ → zK zPc μ0 δ d 49 2 [some (.ref v0), some (.int v1), some (.int v2)] [] μ (zD49_2_b  c2 v0 v1 v2 μ) := by
  intro v0 v1 v2 μ hT
  unfold zD49_2_b
  refine zK_op rfl rfl ?_
  refine zK_op rfl rfl ?_
  refine zK_o (fun h1 ph1 => ?_)
  refine zK_gI rfl h1 hT ?_
  refine zK_icge rfl (fun _ => ?_) (fun _ => ?_)
  · refine zK_op rfl rfl ?_
    exact zK_ret3 rfl (Or.inr rfl) hT
  refine zK_op rfl rfl ?_
  refine zK_op rfl rfl ?_
  refine zK_gRs rfl h1 hT (fun b2 => ?_)
  refine zK_op rfl rfl ?_
  refine zK_a (fun N4 h3 ph3 => ?_)
  refine zK_x (fun j5 h6 h7 h8 => ?_)
  refine zK_aR rfl h3 hT h6 h7 h8 (fun b9 => ?_)
  refine zK_o (fun h10 ph10 => ?_)
  refine zK_gI rfl h10 hT ?_
  refine zK_dv (fun h11 => ?_)
  refine zK_i2d rfl h11 ?_
  refine zK_ifeq rfl (fun _ => ?_) (fun _ => ?_)
  · refine zK_op rfl rfl ?_
    refine zK_op rfl rfl ?_
    exact hc2 v0 v1 (v2 + (1)) μ hT
  refine zK_op rfl rfl ?_
  exact zK_ret3 rfl (Or.inl rfl) hT
theorem zD49_2_ok {μ0 : xe_Mem} {δ : xe_Dy} {d : Nat} (hd : 0 ≤ d)  : ∀ n : Nat, ∀ (v0 : Nat) (v1 : Int32) (v2 : Int32) (μ : xe_Mem), zT zPc μ0 μ → zK zPc μ0 δ d 49 2 [some (.ref v0), some (.int v1), some (.int v2)] [] μ (zD49_2  n v0 v1 v2 μ) := by
  intro n
  induction n with
  | zero => exact fun _ _ _ _ _  => fun o μ' h => by cases h
  | succ n ih => exact zD49_2_bok hd   ih
theorem zD49_ok {μ0 : xe_Mem} {δ : xe_Dy} {d : Nat} (hd : 0 ≤ d) (a0 : Nat) (a1 : Int32) (μ : xe_Mem) (hT : zT zPc μ0 μ) : zK zPc μ0 δ d 49 0 (xe_init [.ref a0, .int a1] (xM_L 49)) [] μ (zD49 a0 a1 μ) := by
  unfold zD49
  show zK zPc μ0 δ d 49 0 [some (.ref a0), some (.int a1), none] [] μ _
  refine zK_op rfl rfl ?_
  refine zK_op rfl rfl ?_
  exact zD49_2_ok hd zfu a0 a1 0 μ hT
/-! 48 LogicalTimes$Reader.takePart(Z)I -/
def zD48_53 (v2 : Int32) (s0 : Int32) (μ : xe_Mem) : zO := zq_cV (zD37 s0 μ) fun m14 => zq_m (xe_setI m14 181 6 ((xe_I m14 181 6) + 1)) fun m16 => some (.inl (some (.int v2)), m16)
def zD48_52 (v2 : Int32) (μ : xe_Mem) : zO := zD48_53 v2 0 μ
def zD48_30 (v1 : Int32) (s0 : Int32) (μ : xe_Mem) : zO := zq_cV (zD37 s0 μ) fun m4 => zq_s (xe_R m4 181 10) fun b6 => zq_o b6 2 <| zq_x (xe_I m4 181 6) 3001 fun j8 => zq_d ((xe_L m4 6 j8).toInt32) <| zq_vI ((xe_I m4 b6 1) / ((xe_L m4 6 j8).toInt32)) fun x13 => if v1 = 0 then zD48_52 x13 m4 else zq_s (xe_R m4 181 10) fun b18 => zq_o b18 2 <| zq_cI (zD49 b18 x13 m4) fun x22 m20 => if x22 = 0 then zD48_53 x13 1 m20 else zD48_52 x13 m20
def zD48_27 (v1 : Int32) (μ : xe_Mem) : zO := zD48_30 v1 1 μ
def zD48  (a1 : Int32) (μ : xe_Mem) : zO := zq_cI (zD35 1000027 μ) fun x3 m1 => if x3 = 0 then zD48_27 a1 m1 else zq_x (xe_I m1 181 6) 3001 fun j23 => if (lg_cmp (xe_L m1 6 j23) 0) = 0 then zD48_27 a1 m1 else zq_s (xe_R m1 181 10) fun b27 => zq_o b27 2 <| zq_x (xe_I m1 181 6) 3001 fun j29 => zq_dL (xe_L m1 6 j29) <| if (lg_cmp (((xe_I m1 b27 1).toInt64) - ((xe_I m1 b27 1).toInt64) / (xe_L m1 6 j29) * (xe_L m1 6 j29)) 0) = 0 then zD48_30 a1 0 m1 else zD48_27 a1 m1
theorem zD48_53_ok {μ0 : xe_Mem} {δ : xe_Dy} {d : Nat} (hd : 1 ≤ d)  : ∀ (v2 : Int32) (s0 : Int32) (l1 : Option Value) (μ : xe_Mem), zT zPc μ0 μ → zK zPc μ0 δ d 48 53 [some (.ref 181), l1, some (.int v2)] [.int s0] μ (zD48_53  v2 s0 μ) := by
  intro v2 s0 l1 μ hT
  unfold zD48_53
  refine zK_cV rfl (as := [.int s0]) (rest := []) rfl rfl rfl (Nat.le_of_ble_eq_true rfl) (Nat.le_of_ble_eq_true rfl) (by decide) (fun _ => rfl) (by omega) (zD37_ok (by omega) s0 μ hT) (fun m14 T15 => ?_)
  refine zK_op rfl rfl ?_
  refine zK_op rfl rfl ?_
  refine zK_gI rfl rfl T15 ?_
  refine zK_op rfl rfl ?_
  refine zK_op rfl rfl ?_
  refine zK_pI rfl rfl T15 rfl (fun m16 T17 => ?_)
  refine zK_op rfl rfl ?_
  exact zK_ret1 rfl T17
theorem zD48_52_ok {μ0 : xe_Mem} {δ : xe_Dy} {d : Nat} (hd : 1 ≤ d)  : ∀ (v2 : Int32) (l1 : Option Value) (μ : xe_Mem), zT zPc μ0 μ → zK zPc μ0 δ d 48 52 [some (.ref 181), l1, some (.int v2)] [] μ (zD48_52  v2 μ) := by
  intro v2 l1 μ hT
  unfold zD48_52
  refine zK_op rfl rfl ?_
  exact zD48_53_ok hd v2 0 _ μ hT
theorem zD48_30_ok {μ0 : xe_Mem} {δ : xe_Dy} {d : Nat} (hd : 1 ≤ d)  : ∀ (v1 : Int32) (s0 : Int32) (μ : xe_Mem), zT zPc μ0 μ → zK zPc μ0 δ d 48 30 [some (.ref 181), some (.int v1), none] [.int s0] μ (zD48_30  v1 s0 μ) := by
  intro v1 s0 μ hT
  unfold zD48_30
  refine zK_cV rfl (as := [.int s0]) (rest := []) rfl rfl rfl (Nat.le_of_ble_eq_true rfl) (Nat.le_of_ble_eq_true rfl) (by decide) (fun _ => rfl) (by omega) (zD37_ok (by omega) s0 μ hT) (fun m4 T5 => ?_)
  refine zK_op rfl rfl ?_
  refine zK_gRs rfl rfl T5 (fun b6 => ?_)
  refine zK_o (fun h7 ph7 => ?_)
  refine zK_gI rfl h7 T5 ?_
  refine zK_op rfl rfl ?_
  refine zK_gRl (b := 3) rfl rfl rfl T5 ?_
  refine zK_gRl (b := 6) rfl rfl rfl T5 ?_
  refine zK_op rfl rfl ?_
  refine zK_gI rfl rfl T5 ?_
  refine zK_x (fun j8 h9 h10 h11 => ?_)
  refine zK_aL rfl rfl T5 h9 h10 h11 ?_
  refine zK_op rfl rfl ?_
  refine zK_dv (fun h12 => ?_)
  refine zK_i2d rfl h12 ?_
  refine zK_vI (fun x13 => ?_)
  refine zK_op rfl rfl ?_
  refine zK_op rfl rfl ?_
  refine zK_ifeq rfl (fun _ => ?_) (fun _ => ?_)
  · exact zD48_52_ok hd x13 _ m4 T5
  refine zK_op rfl rfl ?_
  refine zK_gRs rfl rfl T5 (fun b18 => ?_)
  refine zK_op rfl rfl ?_
  refine zK_o (fun h19 ph19 => ?_)
  refine zK_cI rfl (as := [.ref b18, .int x13]) (rest := []) rfl rfl (xe_rcvO (zT_sh T5 h19)) (Nat.le_of_ble_eq_true rfl) (Nat.le_of_ble_eq_true rfl) (by decide) (fun _ => rfl) (by omega) (zD49_ok (by omega) b18 x13 m4 T5) (fun x22 m20 T21 => ?_)
  refine zK_ifne rfl (fun _ => ?_) (fun _ => ?_)
  · refine zK_op rfl rfl ?_
    refine zK_op rfl rfl ?_
    exact zD48_53_ok hd x13 1 _ m20 T21
  exact zD48_52_ok hd x13 _ m20 T21
theorem zD48_27_ok {μ0 : xe_Mem} {δ : xe_Dy} {d : Nat} (hd : 1 ≤ d)  : ∀ (v1 : Int32) (μ : xe_Mem), zT zPc μ0 μ → zK zPc μ0 δ d 48 27 [some (.ref 181), some (.int v1), none] [] μ (zD48_27  v1 μ) := by
  intro v1 μ hT
  unfold zD48_27
  refine zK_op rfl rfl ?_
  refine zK_op rfl rfl ?_
  exact zD48_30_ok hd v1 1 μ hT
theorem zD48_ok {μ0 : xe_Mem} {δ : xe_Dy} {d : Nat} (hd : 1 ≤ d) (a1 : Int32) (μ : xe_Mem) (hT : zT zPc μ0 μ) : zK zPc μ0 δ d 48 0 (xe_init [.ref 181, .int a1] (xM_L 48)) [] μ (zD48 a1 μ) := by
  unfold zD48
  show zK zPc μ0 δ d 48 0 [some (.ref 181), some (.int a1), none] [] μ _
  refine zK_op rfl rfl ?_
  refine zK_op rfl rfl ?_
  refine zK_cI rfl (as := [.ref 181, .ref 1000027]) (rest := []) rfl rfl (xe_rcvO (zT_sh hT rfl)) (Nat.le_of_ble_eq_true rfl) (Nat.le_of_ble_eq_true rfl) (by decide) (fun _ => rfl) (by omega) (zD35_ok (by omega) 1000027 μ hT) (fun x3 m1 T2 => ?_)
  refine zK_ifeq rfl (fun _ => ?_) (fun _ => ?_)
  · exact zD48_27_ok hd a1 m1 T2
  refine zK_op rfl rfl ?_
  refine zK_gRl (b := 3) rfl rfl rfl T2 ?_
  refine zK_gRl (b := 6) rfl rfl rfl T2 ?_
  refine zK_op rfl rfl ?_
  refine zK_gI rfl rfl T2 ?_
  refine zK_x (fun j23 h24 h25 h26 => ?_)
  refine zK_aL rfl rfl T2 h24 h25 h26 ?_
  refine zK_op rfl rfl ?_
  refine zK_op rfl rfl ?_
  refine zK_ifeq rfl (fun _ => ?_) (fun _ => ?_)
  · exact zD48_27_ok hd a1 m1 T2
  refine zK_op rfl rfl ?_
  refine zK_gRs rfl rfl T2 (fun b27 => ?_)
  refine zK_o (fun h28 ph28 => ?_)
  refine zK_gI rfl h28 T2 ?_
  refine zK_op rfl rfl ?_
  refine zK_op rfl rfl ?_
  refine zK_gRl (b := 3) rfl rfl rfl T2 ?_
  refine zK_gRl (b := 6) rfl rfl rfl T2 ?_
  refine zK_op rfl rfl ?_
  refine zK_gI rfl rfl T2 ?_
  refine zK_x (fun j29 h30 h31 h32 => ?_)
  refine zK_aL rfl rfl T2 h30 h31 h32 ?_
  refine zK_dvL (fun h33 => ?_)
  refine zK_l2d rfl h33 ?_
  refine zK_op rfl rfl ?_
  refine zK_op rfl rfl ?_
  refine zK_ifeq rfl (fun _ => ?_) (fun _ => ?_)
  · refine zK_op rfl rfl ?_
    exact zD48_30_ok hd a1 0 m1 T2
  exact zD48_27_ok hd a1 m1 T2
/-! 51 LogicalTimes$Task.renew(III)V -/
def zD51  (a0 : Nat) (a1 : Int32) (a2 : Int32) (a3 : Int32) (μ : xe_Mem) : zO := zq_o a0 8 <| zq_m (xe_setI μ a0 1 a1) fun m2 => zq_m (xe_setI m2 a0 2 a2) fun m4 => zq_m (xe_setI m4 a0 3 a3) fun m6 => zq_m (xe_setI m6 a0 5 0) fun m8 => zq_m (xe_setI m8 a0 6 0) fun m10 => zq_m (xe_setI m10 a0 11 0) fun m12 => zq_m (xe_setI m12 a0 13 a3) fun m14 => some (.inl none, m14)
theorem zD51_ok {μ0 : xe_Mem} {δ : xe_Dy} {d : Nat} (hd : 0 ≤ d) (a0 : Nat) (a1 : Int32) (a2 : Int32) (a3 : Int32) (μ : xe_Mem) (hT : zT zPc μ0 μ) : zK zPc μ0 δ d 51 0 (xe_init [.ref a0, .int a1, .int a2, .int a3] (xM_L 51)) [] μ (zD51 a0 a1 a2 a3 μ) := by
  unfold zD51
  show zK zPc μ0 δ d 51 0 [some (.ref a0), some (.int a1), some (.int a2), some (.int a3)] [] μ _
  refine zK_op rfl rfl ?_
  refine zK_op rfl rfl ?_
  refine zK_o (fun h1 ph1 => ?_)
  refine zK_pI rfl h1 hT ph1 (fun m2 T3 => ?_)
  refine zK_op rfl rfl ?_
  refine zK_op rfl rfl ?_
  refine zK_pI rfl h1 T3 ph1 (fun m4 T5 => ?_)
  refine zK_op rfl rfl ?_
  refine zK_op rfl rfl ?_
  refine zK_pI rfl h1 T5 ph1 (fun m6 T7 => ?_)
  refine zK_op rfl rfl ?_
  refine zK_op rfl rfl ?_
  refine zK_pI rfl h1 T7 ph1 (fun m8 T9 => ?_)
  refine zK_op rfl rfl ?_
  refine zK_op rfl rfl ?_
  refine zK_pI rfl h1 T9 ph1 (fun m10 T11 => ?_)
  refine zK_op rfl rfl ?_
  refine zK_op rfl rfl ?_
  refine zK_pI rfl h1 T11 ph1 (fun m12 T13 => ?_)
  refine zK_op rfl rfl ?_
  refine zK_op rfl rfl ?_
  refine zK_pI rfl h1 T13 ph1 (fun m14 T15 => ?_)
  exact zK_ret0 rfl T15
/-! 50 LogicalTimes$Program.addTask(LLogicalTimes$Mode;II)LLogicalTimes$Task; -/
def zD50  (a1 : Nat) (a2 : Int32) (a3 : Int32) (μ : xe_Mem) : zO := zq_x (xe_I μ 7 7) 24 fun j1 => zq_s (xe_R μ 16 j1) fun b5 => zq_o a1 2 <| zq_o b5 8 <| zq_cV (zD51 b5 (xe_I μ a1 0) a2 a3 μ) fun m8 => zq_m (xe_setI m8 7 7 ((xe_I m8 7 7) + 1)) fun m10 => zq_s (xe_R m10 a1 2) fun b12 => zq_a b12 4 fun N14 => zq_x (xe_I m10 a1 3) N14 fun j15 => zq_w b12 j15 <| zq_m (xe_setR m10 b12 j15 (some b5)) fun m19 => zq_m (xe_setI m19 a1 3 ((xe_I m19 a1 3) + 1)) fun m22 => some (.inl (some (.ref b5)), m22)
theorem zD50_ok {μ0 : xe_Mem} {δ : xe_Dy} {d : Nat} (hd : 1 ≤ d) (a1 : Nat) (a2 : Int32) (a3 : Int32) (μ : xe_Mem) (hT : zT zPc μ0 μ) : zK zPc μ0 δ d 50 0 (xe_init [.ref 7, .ref a1, .int a2, .int a3] (xM_L 50)) [] μ (zD50 a1 a2 a3 μ) := by
  unfold zD50
  show zK zPc μ0 δ d 50 0 [some (.ref 7), some (.ref a1), some (.int a2), some (.int a3), none] [] μ _
  refine zK_op rfl rfl ?_
  refine zK_gRl (b := 16) rfl rfl rfl hT ?_
  refine zK_op rfl rfl ?_
  refine zK_gI rfl rfl hT ?_
  refine zK_x (fun j1 h2 h3 h4 => ?_)
  refine zK_aR rfl rfl hT h2 h3 h4 (fun b5 => ?_)
  refine zK_op rfl rfl ?_
  refine zK_op rfl rfl ?_
  refine zK_op rfl rfl ?_
  refine zK_o (fun h6 ph6 => ?_)
  refine zK_gI rfl h6 hT ?_
  refine zK_op rfl rfl ?_
  refine zK_op rfl rfl ?_
  refine zK_o (fun h7 ph7 => ?_)
  refine zK_cV rfl (as := [.ref b5, .int (xe_I μ a1 0), .int a2, .int a3]) (rest := []) rfl rfl (xe_rcvO (zT_sh hT h7)) (Nat.le_of_ble_eq_true rfl) (Nat.le_of_ble_eq_true rfl) (by decide) (fun _ => rfl) (by omega) (zD51_ok (by omega) b5 (xe_I μ a1 0) a2 a3 μ hT) (fun m8 T9 => ?_)
  refine zK_op rfl rfl ?_
  refine zK_op rfl rfl ?_
  refine zK_gI rfl rfl T9 ?_
  refine zK_op rfl rfl ?_
  refine zK_op rfl rfl ?_
  refine zK_pI rfl rfl T9 rfl (fun m10 T11 => ?_)
  refine zK_op rfl rfl ?_
  refine zK_gRs rfl h6 T11 (fun b12 => ?_)
  refine zK_op rfl rfl ?_
  refine zK_gI rfl h6 T11 ?_
  refine zK_op rfl rfl ?_
  refine zK_a (fun N14 h13 ph13 => ?_)
  refine zK_x (fun j15 h16 h17 h18 => ?_)
  refine zK_w (fun h21 => ?_)
  refine zK_sR rfl h13 T11 h16 h17 h18 h7 h21 ph13 (fun m19 T20 => ?_)
  refine zK_op rfl rfl ?_
  refine zK_op rfl rfl ?_
  refine zK_gI rfl h6 T20 ?_
  refine zK_op rfl rfl ?_
  refine zK_op rfl rfl ?_
  refine zK_pI rfl h6 T20 ph6 (fun m22 T23 => ?_)
  refine zK_op rfl rfl ?_
  exact zK_ret4 rfl T23
/-! 52 LogicalTimes$Reader.forgetLocals()V -/
def zD52   (μ : xe_Mem) : zO := zq_m (xe_setI μ 182 3 ((xe_I μ 7 4) + (xe_I μ 7 5))) fun m1 => some (.inl none, m1)
theorem zD52_ok {μ0 : xe_Mem} {δ : xe_Dy} {d : Nat} (hd : 0 ≤ d) (μ : xe_Mem) (hT : zT zPc μ0 μ) : zK zPc μ0 δ d 52 0 (xe_init [.ref 181] (xM_L 52)) [] μ (zD52 μ) := by
  unfold zD52
  show zK zPc μ0 δ d 52 0 [some (.ref 181)] [] μ _
  refine zK_op rfl rfl ?_
  refine zK_gRl (b := 182) rfl rfl rfl hT ?_
  refine zK_op rfl rfl ?_
  refine zK_gRl (b := 7) rfl rfl rfl hT ?_
  refine zK_gI rfl rfl hT ?_
  refine zK_op rfl rfl ?_
  refine zK_gRl (b := 7) rfl rfl rfl hT ?_
  refine zK_gI rfl rfl hT ?_
  refine zK_op rfl rfl ?_
  refine zK_pI rfl rfl hT rfl (fun m1 T2 => ?_)
  exact zK_ret0 rfl T2
/-! 58 LogicalTimes$Code.add(II)I -/
def zD58_24 (v3 : Int32) (μ : xe_Mem) : zO := some (.inl (some (.int v3)), μ)
def zD58  (a1 : Int32) (a2 : Int32) (μ : xe_Mem) : zO := zq_vI (xe_I μ 8 2) fun x1 => if (Int32.ofNat 3000) ≤ x1 then zD58_24 x1 μ else zq_x x1 3000 fun j2 => zq_m (xe_setI μ 9 j2 a1) fun m6 => zq_x x1 3000 fun j8 => zq_m (xe_setI m6 10 j8 a2) fun m12 => zq_m (xe_setI m12 8 2 ((xe_I m12 8 2) + 1)) fun m14 => zD58_24 x1 m14
theorem zD58_24_ok {μ0 : xe_Mem} {δ : xe_Dy} {d : Nat} (hd : 0 ≤ d)  : ∀ (v3 : Int32) (l0 : Option Value) (l1 : Option Value) (l2 : Option Value) (μ : xe_Mem), zT zPc μ0 μ → zK zPc μ0 δ d 58 24 [l0, l1, l2, some (.int v3)] [] μ (zD58_24  v3 μ) := by
  intro v3 l0 l1 l2 μ hT
  unfold zD58_24
  refine zK_op rfl rfl ?_
  exact zK_ret1 rfl hT
theorem zD58_ok {μ0 : xe_Mem} {δ : xe_Dy} {d : Nat} (hd : 0 ≤ d) (a1 : Int32) (a2 : Int32) (μ : xe_Mem) (hT : zT zPc μ0 μ) : zK zPc μ0 δ d 58 0 (xe_init [.ref 8, .int a1, .int a2] (xM_L 58)) [] μ (zD58 a1 a2 μ) := by
  unfold zD58
  show zK zPc μ0 δ d 58 0 [some (.ref 8), some (.int a1), some (.int a2), none] [] μ _
  refine zK_op rfl rfl ?_
  refine zK_gI rfl rfl hT ?_
  refine zK_vI (fun x1 => ?_)
  refine zK_op rfl rfl ?_
  refine zK_op rfl rfl ?_
  refine zK_op rfl rfl ?_
  refine zK_gRl (b := 9) rfl rfl rfl hT ?_
  refine zK_alen (N := 3000) (t := 0) rfl rfl (by decide) hT ?_
  refine zK_icge rfl (fun _ => ?_) (fun _ => ?_)
  · exact zD58_24_ok hd x1 _ _ _ μ hT
  refine zK_op rfl rfl ?_
  refine zK_gRl (b := 9) rfl rfl rfl hT ?_
  refine zK_op rfl rfl ?_
  refine zK_op rfl rfl ?_
  refine zK_x (fun j2 h3 h4 h5 => ?_)
  refine zK_sI (a := 9) (g := (fun x => x)) rfl rfl hT h3 h4 h5 rfl (fun m6 T7 => ?_)
  refine zK_op rfl rfl ?_
  refine zK_gRl (b := 10) rfl rfl rfl T7 ?_
  refine zK_op rfl rfl ?_
  refine zK_op rfl rfl ?_
  refine zK_x (fun j8 h9 h10 h11 => ?_)
  refine zK_sI (a := 10) (g := (fun x => x)) rfl rfl T7 h9 h10 h11 rfl (fun m12 T13 => ?_)
  refine zK_op rfl rfl ?_
  refine zK_op rfl rfl ?_
  refine zK_gI rfl rfl T13 ?_
  refine zK_op rfl rfl ?_
  refine zK_op rfl rfl ?_
  refine zK_pI rfl rfl T13 rfl (fun m14 T15 => ?_)
  exact zD58_24_ok hd x1 _ _ _ m14 T15
