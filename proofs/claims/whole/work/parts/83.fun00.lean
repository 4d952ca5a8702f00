/-! methods as functions (by wip/whole/gen/dec.py) -/
/-! 13 LogicalTimes.putBytes(I)V -/
def zD13_2_b (c2 : Int32 → Int32 → xe_Mem → zO) (v1 : Int32) (v2 : Int32) (μ : xe_Mem) : zO := if v2 < 0 then some (.inl none, μ) else zq_x (xe_I μ 0 2) 3000 fun j1 => zq_m (xe_setI μ 1 j1 ((vp_nar .byte) ((v1 >>> (v2 &&& 31)).toInt8.toInt32))) fun m5 => zq_m (xe_setI m5 0 2 ((xe_I m5 0 2) + 1)) fun m7 => c2 v1 (v2 + (-8)) m7
def zD13_2   : Nat → Int32 → Int32 → xe_Mem → zO
  | 0 => fun _ _ _  => none
  | n + 1 => zD13_2_b   (zD13_2   n)
def zD13  (a1 : Int32) (μ : xe_Mem) : zO := zD13_2 zfu a1 24 μ
theorem zD13_2_bok {μ0 : xe_Mem} {δ : xe_Dy} {d : Nat} (hd : 0 ≤ d)  {c2 : Int32 → Int32 → xe_Mem → zO} (hc2 : ∀ (v1 : Int32) (v2 : Int32) (μ : xe_Mem), zT zPc μ0 μ → zK zPc μ0 δ d 13 2 [some (.ref 0), some (.int v1), some (.int v2)] [] μ (c2 v1 v2 μ)) : ∀ (v1 : Int32) (v2 : Int32) (μ : xe_Mem), zT zPc μ0 μ → zK zPc μ0 δ d 13 2 [some (.ref 0), some (.int v1), some (.int v2)] [] μ (zD13_2_b  c2 v1 v2 μ) := by
  intro v1 v2 μ hT
  unfold zD13_2_b
  refine zK_op rfl rfl ?_
  refine zK_iflt rfl (fun _ => ?_) (fun _ => ?_)
  · exact zK_ret0 rfl hT
  refine zK_op rfl rfl ?_
  refine zK_gRl (b := 1) rfl rfl rfl hT ?_
  refine zK_op rfl rfl ?_
  refine zK_gI rfl rfl hT ?_
  refine zK_op rfl rfl ?_
  refine zK_op rfl rfl ?_
  refine zK_op rfl rfl ?_
  refine zK_op rfl rfl ?_
  refine zK_x (fun j1 h2 h3 h4 => ?_)
  refine zK_sI (a := 1) (g := (vp_nar .byte)) rfl rfl hT h2 h3 h4 rfl (fun m5 T6 => ?_)
  refine zK_op rfl rfl ?_
  refine zK_op rfl rfl ?_
  refine zK_gI rfl rfl T6 ?_
  refine zK_op rfl rfl ?_
  refine zK_op rfl rfl ?_
  refine zK_pI rfl rfl T6 rfl (fun m7 T8 => ?_)
  refine zK_op rfl rfl ?_
  refine zK_op rfl rfl ?_
  exact hc2 v1 (v2 + (-8)) m7 T8
theorem zD13_2_ok {μ0 : xe_Mem} {δ : xe_Dy} {d : Nat} (hd : 0 ≤ d)  : ∀ n : Nat, ∀ (v1 : Int32) (v2 : Int32) (μ : xe_Mem), zT zPc μ0 μ → zK zPc μ0 δ d 13 2 [some (.ref 0), some (.int v1), some (.int v2)] [] μ (zD13_2  n v1 v2 μ) := by
  intro n
  induction n with
  | zero => exact fun _ _ _ _  => fun o μ' h => by cases h
  | succ n ih => exact zD13_2_bok hd   ih
theorem zD13_ok {μ0 : xe_Mem} {δ : xe_Dy} {d : Nat} (hd : 0 ≤ d) (a1 : Int32) (μ : xe_Mem) (hT : zT zPc μ0 μ) : zK zPc μ0 δ d 13 0 (xe_init [.ref 0, .int a1] (xM_L 13)) [] μ (zD13 a1 μ) := by
  unfold zD13
  show zK zPc μ0 δ d 13 0 [some (.ref 0), some (.int a1), none] [] μ _
  refine zK_op rfl rfl ?_
  refine zK_op rfl rfl ?_
  exact zD13_2_ok hd zfu a1 24 μ hT
/-! 12 LogicalTimes.feed(IIIII)Z -/
def zD12  (a1 : Int32) (a2 : Int32) (a3 : Int32) (a4 : Int32) (a5 : Int32) (μ : xe_Mem) : zO := if ((xe_I μ 0 2) + 20) ≤ 3000 then zq_cV (zD13 a1 μ) fun m1 => zq_cV (zD13 a2 m1) fun m3 => zq_cV (zD13 a3 m3) fun m5 => zq_cV (zD13 a4 m5) fun m7 => zq_cV (zD13 a5 m7) fun m9 => some (.inl (some (.int 1)), m9) else some (.inl (some (.int 0)), μ)
theorem zD12_ok {μ0 : xe_Mem} {δ : xe_Dy} {d : Nat} (hd : 1 ≤ d) (a1 : Int32) (a2 : Int32) (a3 : Int32) (a4 : Int32) (a5 : Int32) (μ : xe_Mem) (hT : zT zPc μ0 μ) : zK zPc μ0 δ d 12 0 (xe_init [.ref 0, .int a1, .int a2, .int a3, .int a4, .int a5] (xM_L 12)) [] μ (zD12 a1 a2 a3 a4 a5 μ) := by
  unfold zD12
  show zK zPc μ0 δ d 12 0 [some (.ref 0), some (.int a1), some (.int a2), some (.int a3), some (.int a4), some (.int a5)] [] μ _
  refine zK_op rfl rfl ?_
  refine zK_gI rfl rfl hT ?_
  refine zK_op rfl rfl ?_
  refine zK_op rfl rfl ?_
  refine zK_op rfl rfl ?_
  refine zK_icle rfl (fun _ => ?_) (fun _ => ?_)
  · refine zK_op rfl rfl ?_
    refine zK_op rfl rfl ?_
    refine zK_cV rfl (as := [.ref 0, .int a1]) (rest := []) rfl rfl (xe_rcvO (zT_sh hT rfl)) (Nat.le_of_ble_eq_true rfl) (Nat.le_of_ble_eq_true rfl) (by decide) (fun _ => rfl) (by omega) (zD13_ok (by omega) a1 μ hT) (fun m1 T2 => ?_)
    refine zK_op rfl rfl ?_
    refine zK_op rfl rfl ?_
    refine zK_cV rfl (as := [.ref 0, .int a2]) (rest := []) rfl rfl (xe_rcvO (zT_sh T2 rfl)) (Nat.le_of_ble_eq_true rfl) (Nat.le_of_ble_eq_true rfl) (by decide) (fun _ => rfl) (by omega) (zD13_ok (by omega) a2 m1 T2) (fun m3 T4 => ?_)
    refine zK_op rfl rfl ?_
    refine zK_op rfl rfl ?_
    refine zK_cV rfl (as := [.ref 0, .int a3]) (rest := []) rfl rfl (xe_rcvO (zT_sh T4 rfl)) (Nat.le_of_ble_eq_true rfl) (Nat.le_of_ble_eq_true rfl) (by decide) (fun _ => rfl) (by omega) (zD13_ok (by omega) a3 m3 T4) (fun m5 T6 => ?_)
    refine zK_op rfl rfl ?_
    refine zK_op rfl rfl ?_
    refine zK_cV rfl (as := [.ref 0, .int a4]) (rest := []) rfl rfl (xe_rcvO (zT_sh T6 rfl)) (Nat.le_of_ble_eq_true rfl) (Nat.le_of_ble_eq_true rfl) (by decide) (fun _ => rfl) (by omega) (zD13_ok (by omega) a4 m5 T6) (fun m7 T8 => ?_)
    refine zK_op rfl rfl ?_
    refine zK_op rfl rfl ?_
    refine zK_cV rfl (as := [.ref 0, .int a5]) (rest := []) rfl rfl (xe_rcvO (zT_sh T8 rfl)) (Nat.le_of_ble_eq_true rfl) (Nat.le_of_ble_eq_true rfl) (by decide) (fun _ => rfl) (by omega) (zD13_ok (by omega) a5 m7 T8) (fun m9 T10 => ?_)
    refine zK_op rfl rfl ?_
    exact zK_ret3 rfl (Or.inr rfl) T10
  refine zK_op rfl rfl ?_
  exact zK_ret3 rfl (Or.inl rfl) hT
/-! 14 LogicalTimes.end(I)Z -/
def zD14_6 (μ : xe_Mem) : zO := some (.inl (some (.int 0)), μ)
def zD14  (a1 : Int32) (μ : xe_Mem) : zO := if a1 < 0 then zD14_6 μ else if a1 ≤ (xe_I μ 0 2) then zq_acp 2 xe_bok 1 0 2 0 a1 μ fun m1 => zq_m (xe_setI m1 0 3 a1) fun m3 => zq_m (xe_setI m3 0 2 0) fun m5 => some (.inl (some (.int 1)), m5) else zD14_6 μ
theorem zD14_6_ok {μ0 : xe_Mem} {δ : xe_Dy} {d : Nat} (hd : 0 ≤ d)  : ∀ (l0 : Option Value) (l1 : Option Value) (μ : xe_Mem), zT zPc μ0 μ → zK zPc μ0 δ d 14 6 [l0, l1] [] μ (zD14_6  μ) := by
  intro l0 l1 μ hT
  unfold zD14_6
  refine zK_op rfl rfl ?_
  exact zK_ret3 rfl (Or.inl rfl) hT
theorem zD14_ok {μ0 : xe_Mem} {δ : xe_Dy} {d : Nat} (hd : 0 ≤ d) (a1 : Int32) (μ : xe_Mem) (hT : zT zPc μ0 μ) : zK zPc μ0 δ d 14 0 (xe_init [.ref 0, .int a1] (xM_L 14)) [] μ (zD14 a1 μ) := by
  unfold zD14
  show zK zPc μ0 δ d 14 0 [some (.ref 0), some (.int a1)] [] μ _
  refine zK_op rfl rfl ?_
  refine zK_iflt rfl (fun _ => ?_) (fun _ => ?_)
  · exact zD14_6_ok hd _ _ μ hT
  refine zK_op rfl rfl ?_
  refine zK_op rfl rfl ?_
  refine zK_gI rfl rfl hT ?_
  refine zK_icle rfl (fun _ => ?_) (fun _ => ?_)
  · refine zK_op rfl rfl ?_
    refine zK_gRl (b := 1) rfl rfl rfl hT ?_
    refine zK_op rfl rfl ?_
    refine zK_op rfl rfl ?_
    refine zK_gRl (b := 2) rfl rfl rfl hT ?_
    refine zK_op rfl rfl ?_
    refine zK_op rfl rfl ?_
    refine zK_acp rfl hT rfl (fun m1 T2 => ?_)
    refine zK_op rfl rfl ?_
    refine zK_op rfl rfl ?_
    refine zK_pI rfl rfl T2 rfl (fun m3 T4 => ?_)
    refine zK_op rfl rfl ?_
    refine zK_op rfl rfl ?_
    refine zK_pI rfl rfl T4 rfl (fun m5 T6 => ?_)
    refine zK_op rfl rfl ?_
    exact zK_ret3 rfl (Or.inr rfl) T6
  exact zD14_6_ok hd _ _ μ hT
/-! 17 LogicalTimes$Tokens.pastBlanks([BII)I -/
def zD17_27 (v3 : Int32) (μ : xe_Mem) : zO := some (.inl (some (.int v3)), μ)
def zD17_25 (c2 : Int32 → Int32 → xe_Mem → zO) (v2 : Int32) (v3 : Int32) (μ : xe_Mem) : zO := c2 v2 (v3 + (1)) μ
def zD17_2_b (c2 : Int32 → Int32 → xe_Mem → zO) (v2 : Int32) (v3 : Int32) (μ : xe_Mem) : zO := if v2 ≤ v3 then zD17_27 v3 μ else zq_x v3 3000 fun j1 => if (xe_I μ 2 j1) = 32 then zD17_25 c2 v2 v3 μ else zq_x v3 3000 fun j5 => if (xe_I μ 2 j5) = 9 then zD17_25 c2 v2 v3 μ else zq_x v3 3000 fun j9 => if (xe_I μ 2 j9) = 10 then zD17_25 c2 v2 v3 μ else zq_x v3 3000 fun j13 => if (xe_I μ 2 j13) = 13 then zD17_25 c2 v2 v3 μ else zD17_27 v3 μ
def zD17_2   : Nat → Int32 → Int32 → xe_Mem → zO
  | 0 => fun _ _ _  => none
  | n + 1 => zD17_2_b   (zD17_2   n)
def zD17  (a1 : Int32) (a2 : Int32) (μ : xe_Mem) : zO := zD17_2 zfu a2 a1 μ
theorem zD17_27_ok {μ0 : xe_Mem} {δ : xe_Dy} {d : Nat} (hd : 0 ≤ d)  : ∀ (v3 : Int32) (l0 : Option Value) (l1 : Option Value) (l2 : Option Value) (μ : xe_Mem), zT zPc μ0 μ → zK zPc μ0 δ d 17 27 [l0, l1, l2, some (.int v3)] [] μ (zD17_27  v3 μ) := by
  intro v3 l0 l1 l2 μ hT
  unfold zD17_27
  refine zK_op rfl rfl ?_
  exact zK_ret1 rfl hT
theorem zD17_25_ok {μ0 : xe_Mem} {δ : xe_Dy} {d : Nat} (hd : 0 ≤ d) {c2 : Int32 → Int32 → xe_Mem → zO} (hc2 : ∀ (v2 : Int32) (v3 : Int32) (l1 : Option Value) (μ : xe_Mem), zT zPc μ0 μ → zK zPc μ0 δ d 17 2 [some (.ref 2), l1, some (.int v2), some (.int v3)] [] μ (c2 v2 v3 μ)) : ∀ (v2 : Int32) (v3 : Int32) (l1 : Option Value) (μ : xe_Mem), zT zPc μ0 μ → zK zPc μ0 δ d 17 25 [some (.ref 2), l1, some (.int v2), some (.int v3)] [] μ (zD17_25  c2 v2 v3 μ) := by
  intro v2 v3 l1 μ hT
  unfold zD17_25
  refine zK_op rfl rfl ?_
  refine zK_op rfl rfl ?_
  exact hc2 v2 (v3 + (1)) _ μ hT
theorem zD17_2_bok {μ0 : xe_Mem} {δ : xe_Dy} {d : Nat} (hd : 0 ≤ d)  {c2 : Int32 → Int32 → xe_Mem → zO} (hc2 : ∀ (v2 : Int32) (v3 : Int32) (l1 : Option Value) (μ : xe_Mem), zT zPc μ0 μ → zK zPc μ0 δ d 17 2 [some (.ref 2), l1, some (.int v2), some (.int v3)] [] μ (c2 v2 v3 μ)) : ∀ (v2 : Int32) (v3 : Int32) (l1 : Option Value) (μ : xe_Mem), zT zPc μ0 μ → zK zPc μ0 δ d 17 2 [some (.ref 2), l1, some (.int v2), some (.int v3)] [] μ (zD17_2_b  c2 v2 v3 μ) := by
  intro v2 v3 l1 μ hT
  unfold zD17_2_b
  refine zK_op rfl rfl ?_
  refine zK_op rfl rfl ?_
  refine zK_icge rfl (fun _ => ?_) (fun _ => ?_)
  · exact zD17_27_ok hd v3 _ _ _ μ hT
  refine zK_op rfl rfl ?_
  refine zK_op rfl rfl ?_
  refine zK_x (fun j1 h2 h3 h4 => ?_)
  refine zK_aI rfl rfl hT h2 h3 h4 ?_
  refine zK_op rfl rfl ?_
  refine zK_iceq rfl (fun _ => ?_) (fun _ => ?_)
  · exact zD17_25_ok hd hc2 v2 v3 _ μ hT
  refine zK_op rfl rfl ?_
  refine zK_op rfl rfl ?_
  refine zK_x (fun j5 h6 h7 h8 => ?_)
  refine zK_aI rfl rfl hT h6 h7 h8 ?_
  refine zK_op rfl rfl ?_
  refine zK_iceq rfl (fun _ => ?_) (fun _ => ?_)
  · exact zD17_25_ok hd hc2 v2 v3 _ μ hT
  refine zK_op rfl rfl ?_
  refine zK_op rfl rfl ?_
  refine zK_x (fun j9 h10 h11 h12 => ?_)
  refine zK_aI rfl rfl hT h10 h11 h12 ?_
  refine zK_op rfl rfl ?_
  refine zK_iceq rfl (fun _ => ?_) (fun _ => ?_)
  · exact zD17_25_ok hd hc2 v2 v3 _ μ hT
  refine zK_op rfl rfl ?_
  refine zK_op rfl rfl ?_
  refine zK_x (fun j13 h14 h15 h16 => ?_)
  refine zK_aI rfl rfl hT h14 h15 h16 ?_
  refine zK_op rfl rfl ?_
  refine zK_icne rfl (fun _ => ?_) (fun _ => ?_)
  · exact zD17_25_ok hd hc2 v2 v3 _ μ hT
  exact zD17_27_ok hd v3 _ _ _ μ hT
theorem zD17_2_ok {μ0 : xe_Mem} {δ : xe_Dy} {d : Nat} (hd : 0 ≤ d)  : ∀ n : Nat, ∀ (v2 : Int32) (v3 : Int32) (l1 : Option Value) (μ : xe_Mem), zT zPc μ0 μ → zK zPc μ0 δ d 17 2 [some (.ref 2), l1, some (.int v2), some (.int v3)] [] μ (zD17_2  n v2 v3 μ) := by
  intro n
  induction n with
  | zero => exact fun _ _ _ _ _  => fun o μ' h => by cases h
  | succ n ih => exact zD17_2_bok hd   ih
theorem zD17_ok {μ0 : xe_Mem} {δ : xe_Dy} {d : Nat} (hd : 0 ≤ d) (a1 : Int32) (a2 : Int32) (μ : xe_Mem) (hT : zT zPc μ0 μ) : zK zPc μ0 δ d 17 0 (xe_init [.ref 2, .int a1, .int a2] (xM_L 17)) [] μ (zD17 a1 a2 μ) := by
  unfold zD17
  show zK zPc μ0 δ d 17 0 [some (.ref 2), some (.int a1), some (.int a2), none] [] μ _
  refine zK_op rfl rfl ?_
  refine zK_op rfl rfl ?_
  exact zD17_2_ok hd zfu a2 a1 _ μ hT
/-! 19 LogicalTimes$Tokens.put(LLogicalTimes$Kind;IJ)V -/
def zD19  (a1 : Nat) (a2 : Int32) (a3 : Int64) (μ : xe_Mem) : zO := zq_x (xe_I μ 3 3) 3001 fun j1 => zq_k a1 <| zq_m (xe_setR μ 4 j1 (some a1)) fun m5 => zq_x (xe_I m5 3 3) 3001 fun j8 => zq_m (xe_setI m5 5 j8 a2) fun m12 => zq_x (xe_I m12 3 3) 3001 fun j14 => zq_m (xe_setL m12 6 j14 a3) fun m18 => zq_m (xe_setI m18 3 3 ((xe_I m18 3 3) + 1)) fun m20 => some (.inl none, m20)
theorem zD19_ok {μ0 : xe_Mem} {δ : xe_Dy} {d : Nat} (hd : 0 ≤ d) (a1 : Nat) (a2 : Int32) (a3 : Int64) (μ : xe_Mem) (hT : zT zPc μ0 μ) : zK zPc μ0 δ d 19 0 (xe_init [.ref 3, .ref a1, .int a2, .long a3] (xM_L 19)) [] μ (zD19 a1 a2 a3 μ) := by
  unfold zD19
  show zK zPc μ0 δ d 19 0 [some (.ref 3), some (.ref a1), some (.int a2), some (.long a3), none] [] μ _
  refine zK_op rfl rfl ?_
  refine zK_gRl (b := 4) rfl rfl rfl hT ?_
  refine zK_op rfl rfl ?_
  refine zK_gI rfl rfl hT ?_
  refine zK_op rfl rfl ?_
  refine zK_x (fun j1 h2 h3 h4 => ?_)
  refine zK_k (fun h7 => ?_)
  refine zK_sK rfl rfl hT h2 h3 h4 h7 rfl rfl (fun m5 T6 => ?_)
  refine zK_op rfl rfl ?_
  refine zK_gRl (b := 5) rfl rfl rfl T6 ?_
  refine zK_op rfl rfl ?_
  refine zK_gI rfl rfl T6 ?_
  refine zK_op rfl rfl ?_
  refine zK_x (fun j8 h9 h10 h11 => ?_)
  refine zK_sI (a := 5) (g := (fun x => x)) rfl rfl T6 h9 h10 h11 rfl (fun m12 T13 => ?_)
  refine zK_op rfl rfl ?_
  refine zK_gRl (b := 6) rfl rfl rfl T13 ?_
  refine zK_op rfl rfl ?_
  refine zK_gI rfl rfl T13 ?_
  refine zK_op rfl rfl ?_
  refine zK_x (fun j14 h15 h16 h17 => ?_)
  refine zK_sL rfl rfl T13 h15 h16 h17 rfl (fun m18 T19 => ?_)
  refine zK_op rfl rfl ?_
  refine zK_op rfl rfl ?_
  refine zK_gI rfl rfl T19 ?_
  refine zK_op rfl rfl ?_
  refine zK_op rfl rfl ?_
  refine zK_pI rfl rfl T19 rfl (fun m20 T21 => ?_)
  exact zK_ret0 rfl T21
/-! 20 LogicalTimes$Tokens.isLetter(I)Z -/
def zD20_15 (s0 : Int32) (μ : xe_Mem) : zO := zq_z s0 <| some (.inl (some (.int s0)), μ)
def zD20_14 (μ : xe_Mem) : zO := zD20_15 0 μ
def zD20_12 (μ : xe_Mem) : zO := zD20_15 1 μ
def zD20_6 (v0 : Int32) (μ : xe_Mem) : zO := if v0 < 65 then zD20_14 μ else if 90 < v0 then zD20_14 μ else zD20_12 μ
def zD20  (a0 : Int32) (μ : xe_Mem) : zO := if a0 < 97 then zD20_6 a0 μ else if a0 ≤ 122 then zD20_12 μ else zD20_6 a0 μ
theorem zD20_15_ok {μ0 : xe_Mem} {δ : xe_Dy} {d : Nat} (hd : 0 ≤ d)  : ∀ (s0 : Int32) (l0 : Option Value) (μ : xe_Mem), zT zPc μ0 μ → zK zPc μ0 δ d 20 15 [l0] [.int s0] μ (zD20_15  s0 μ) := by
  intro s0 l0 μ hT
  unfold zD20_15
  exact zK_ret3z rfl hT
theorem zD20_14_ok {μ0 : xe_Mem} {δ : xe_Dy} {d : Nat} (hd : 0 ≤ d)  : ∀ (l0 : Option Value) (μ : xe_Mem), zT zPc μ0 μ → zK zPc μ0 δ d 20 14 [l0] [] μ (zD20_14  μ) := by
  intro l0 μ hT
  unfold zD20_14
  refine zK_op rfl rfl ?_
  exact zD20_15_ok hd 0 _ μ hT
theorem zD20_12_ok {μ0 : xe_Mem} {δ : xe_Dy} {d : Nat} (hd : 0 ≤ d)  : ∀ (l0 : Option Value) (μ : xe_Mem), zT zPc μ0 μ → zK zPc μ0 δ d 20 12 [l0] [] μ (zD20_12  μ) := by
  intro l0 μ hT
  unfold zD20_12
  refine zK_op rfl rfl ?_
  refine zK_op rfl rfl ?_
  exact zD20_15_ok hd 1 _ μ hT
theorem zD20_6_ok {μ0 : xe_Mem} {δ : xe_Dy} {d : Nat} (hd : 0 ≤ d)  : ∀ (v0 : Int32) (μ : xe_Mem), zT zPc μ0 μ → zK zPc μ0 δ d 20 6 [some (.int v0)] [] μ (zD20_6  v0 μ) := by
  intro v0 μ hT
  unfold zD20_6
  refine zK_op rfl rfl ?_
  refine zK_op rfl rfl ?_
  refine zK_iclt rfl (fun _ => ?_) (fun _ => ?_)
  · exact zD20_14_ok hd _ μ hT
  refine zK_op rfl rfl ?_
  refine zK_op rfl rfl ?_
  refine zK_icgt rfl (fun _ => ?_) (fun _ => ?_)
  · exact zD20_14_ok hd _ μ hT
  exact zD20_12_ok hd _ μ hT
theorem zD20_ok {μ0 : xe_Mem} {δ : xe_Dy} {d : Nat} (hd : 0 ≤ d) (a0 : Int32) (μ : xe_Mem) (hT : zT zPc μ0 μ) : zK zPc μ0 δ d 20 0 (xe_init [.int a0] (xM_L 20)) [] μ (zD20 a0 μ) := by
  unfold zD20
  show zK zPc μ0 δ d 20 0 [some (.int a0)] [] μ _
  refine zK_op rfl rfl ?_
  refine zK_op rfl rfl ?_
  refine zK_iclt rfl (fun _ => ?_) (fun _ => ?_)
  · exact zD20_6_ok hd a0 μ hT
  refine zK_op rfl rfl ?_
  refine zK_op rfl rfl ?_
  refine zK_icle rfl (fun _ => ?_) (fun _ => ?_)
  · exact zD20_12_ok hd _ μ hT
  exact zD20_6_ok hd a0 μ hT
/-! 22 LogicalTimes$Tokens.isDigit(I)Z -/
def zD22_9 (s0 : Int32) (μ : xe_Mem) : zO := zq_z s0 <| some (.inl (some (.int s0)), μ)
def zD22_8 (μ : xe_Mem) : zO := zD22_9 0 μ
def zD22  (a0 : Int32) (μ : xe_Mem) : zO := if a0 < 48 then zD22_8 μ else if 57 < a0 then zD22_8 μ else zD22_9 1 μ
theorem zD22_9_ok {μ0 : xe_Mem} {δ : xe_Dy} {d : Nat} (hd : 0 ≤ d)  : ∀ (s0 : Int32) (l0 : Option Value) (μ : xe_Mem), zT zPc μ0 μ → zK zPc μ0 δ d 22 9 [l0] [.int s0] μ (zD22_9  s0 μ) := by
  intro s0 l0 μ hT
  unfold zD22_9
  exact zK_ret3z rfl hT
theorem zD22_8_ok {μ0 : xe_Mem} {δ : xe_Dy} {d : Nat} (hd : 0 ≤ d)  : ∀ (l0 : Option Value) (μ : xe_Mem), zT zPc μ0 μ → zK zPc μ0 δ d 22 8 [l0] [] μ (zD22_8  μ) := by
  intro l0 μ hT
  unfold zD22_8
  refine zK_op rfl rfl ?_
  exact zD22_9_ok hd 0 _ μ hT
theorem zD22_ok {μ0 : xe_Mem} {δ : xe_Dy} {d : Nat} (hd : 0 ≤ d) (a0 : Int32) (μ : xe_Mem) (hT : zT zPc μ0 μ) : zK zPc μ0 δ d 22 0 (xe_init [.int a0] (xM_L 22)) [] μ (zD22 a0 μ) := by
  unfold zD22
  show zK zPc μ0 δ d 22 0 [some (.int a0)] [] μ _
  refine zK_op rfl rfl ?_
  refine zK_op rfl rfl ?_
  refine zK_iclt rfl (fun _ => ?_) (fun _ => ?_)
  · exact zD22_8_ok hd _ μ hT
  refine zK_op rfl rfl ?_
  refine zK_op rfl rfl ?_
  refine zK_icgt rfl (fun _ => ?_) (fun _ => ?_)
  · exact zD22_8_ok hd _ μ hT
  refine zK_op rfl rfl ?_
  refine zK_op rfl rfl ?_
  exact zD22_9_ok hd 1 _ μ hT
/-! 24 LogicalTimes$Kind.stands([BII)Z -/
def zD24_11_b (c11 : Nat → Int32 → Int32 → Int32 → xe_Mem → zO) (v0 : Nat) (v2 : Int32) (v3 : Int32) (v4 : Int32) (μ : xe_Mem) : zO := if v3 ≤ v4 then some (.inl (some (.int 1)), μ) else zq_k v0 <| zq_cI (zD27 (1000031 + (v0 - 1000001)) (v4 - v2) μ) fun x8 m6 => zq_x v4 3000 fun j9 => if x8 = (xe_I m6 2 j9) then c11 v0 v2 v3 (v4 + (1)) m6 else some (.inl (some (.int 0)), m6)
def zD24_11   : Nat → Nat → Int32 → Int32 → Int32 → xe_Mem → zO
  | 0 => fun _ _ _ _ _  => none
  | n + 1 => zD24_11_b   (zD24_11   n)
def zD24  (a0 : Nat) (a2 : Int32) (a3 : Int32) (μ : xe_Mem) : zO := zq_k a0 <| zq_cI (zD25 (1000031 + (a0 - 1000001)) μ) fun x4 m2 => if x4 = (a3 - a2) then zD24_11 zfu a0 a2 a3 a2 m2 else some (.inl (some (.int 0)), m2)
theorem zD24_11_bok {μ0 : xe_Mem} {δ : xe_Dy} {d : Nat} (hd : 9 ≤ d)  {c11 : Nat → Int32 → Int32 → Int32 → xe_Mem → zO} (hc11 : ∀ (v0 : Nat) (v2 : Int32) (v3 : Int32) (v4 : Int32) (μ : xe_Mem), zT zPc μ0 μ → zK zPc μ0 δ d 24 11 [some (.ref v0), some (.ref 2), some (.int v2), some (.int v3), some (.int v4)] [] μ (c11 v0 v2 v3 v4 μ)) : ∀ (v0 : Nat) (v2 : Int32) (v3 : Int32) (v4 : Int32) (μ : xe_Mem), zT zPc μ0 μ → zK zPc μ0 δ d 24 11 [some (.ref v0), some (.ref 2), some (.int v2), some (.int v3), some (.int v4)] [] μ (zD24_11_b  c11 v0 v2 v3 v4 μ) := by
  intro v0 v2 v3 v4 μ hT
  unfold zD24_11_b
  refine zK_op rfl rfl ?_
  refine zK_op rfl rfl ?_
  refine zK_icge rfl (fun _ => ?_) (fun _ => ?_)
  · refine zK_op rfl rfl ?_
    exact zK_ret3 rfl (Or.inr rfl) hT
  refine zK_op rfl rfl ?_
  refine zK_k (fun h5 => ?_)
  refine zK_gsp rfl h5 ?_
  refine zK_op rfl rfl ?_
  refine zK_op rfl rfl ?_
  refine zK_op rfl rfl ?_
  refine zK_cI rfl (as := [.ref (1000031 + (v0 - 1000001)), .int (v4 - v2)]) (rest := []) rfl rfl (ze_rcvS h5) (Nat.le_of_ble_eq_true rfl) (Nat.le_of_ble_eq_true rfl) (by decide) (fun _ => rfl) (by omega) (zD27_ok (by omega) (1000031 + (v0 - 1000001)) (v4 - v2) μ hT) (fun x8 m6 T7 => ?_)
  refine zK_op rfl rfl ?_
  refine zK_op rfl rfl ?_
  refine zK_x (fun j9 h10 h11 h12 => ?_)
  refine zK_aI rfl rfl T7 h10 h11 h12 ?_
  refine zK_iceq rfl (fun _ => ?_) (fun _ => ?_)
  · refine zK_op rfl rfl ?_
    refine zK_op rfl rfl ?_
    exact hc11 v0 v2 v3 (v4 + (1)) m6 T7
  refine zK_op rfl rfl ?_
  exact zK_ret3 rfl (Or.inl rfl) T7
theorem zD24_11_ok {μ0 : xe_Mem} {δ : xe_Dy} {d : Nat} (hd : 9 ≤ d)  : ∀ n : Nat, ∀ (v0 : Nat) (v2 : Int32) (v3 : Int32) (v4 : Int32) (μ : xe_Mem), zT zPc μ0 μ → zK zPc μ0 δ d 24 11 [some (.ref v0), some (.ref 2), some (.int v2), some (.int v3), some (.int v4)] [] μ (zD24_11  n v0 v2 v3 v4 μ) := by
  intro n
  induction n with
  | zero => exact fun _ _ _ _ _ _  => fun o μ' h => by cases h
  | succ n ih => exact zD24_11_bok hd   ih
theorem zD24_ok {μ0 : xe_Mem} {δ : xe_Dy} {d : Nat} (hd : 9 ≤ d) (a0 : Nat) (a2 : Int32) (a3 : Int32) (μ : xe_Mem) (hT : zT zPc μ0 μ) : zK zPc μ0 δ d 24 0 (xe_init [.ref a0, .ref 2, .int a2, .int a3] (xM_L 24)) [] μ (zD24 a0 a2 a3 μ) := by
  unfold zD24
  show zK zPc μ0 δ d 24 0 [some (.ref a0), some (.ref 2), some (.int a2), some (.int a3), none] [] μ _
  refine zK_op rfl rfl ?_
  refine zK_k (fun h1 => ?_)
  refine zK_gsp rfl h1 ?_
  refine zK_cI rfl (as := [.ref (1000031 + (a0 - 1000001))]) (rest := []) rfl rfl (ze_rcvS h1) (Nat.le_of_ble_eq_true rfl) (Nat.le_of_ble_eq_true rfl) (by decide) (fun _ => rfl) (by omega) (zD25_ok (by omega) (1000031 + (a0 - 1000001)) μ hT) (fun x4 m2 T3 => ?_)
  refine zK_op rfl rfl ?_
  refine zK_op rfl rfl ?_
  refine zK_op rfl rfl ?_
  refine zK_iceq rfl (fun _ => ?_) (fun _ => ?_)
  · refine zK_op rfl rfl ?_
    refine zK_op rfl rfl ?_
    exact zD24_11_ok hd zfu a0 a2 a3 a2 m2 T3
  refine zK_op rfl rfl ?_
  exact zK_ret3 rfl (Or.inl rfl) T3
/-! 23 LogicalTimes$Kind.spelled([BIILLogicalTimes$Kind;)LLogicalTimes$Kind; -/
def zD23_2_b (c2 : Int32 → Int32 → Nat → Int32 → xe_Mem → zO) (v1 : Int32) (v2 : Int32) (v3 : Nat) (v4 : Int32) (μ : xe_Mem) : zO := if 29 ≤ v4 then some (.inl (some (.ref v3)), μ) else zq_x v4 29 fun j1 => zq_cI (zD24 (1000001 + j1) v1 v2 μ) fun x7 m5 => if x7 = 0 then c2 v1 v2 v3 (v4 + (1)) m5 else zq_x v4 29 fun j8 => some (.inl (some (.ref (1000001 + j8))), m5)
def zD23_2   : Nat → Int32 → Int32 → Nat → Int32 → xe_Mem → zO
  | 0 => fun _ _ _ _ _  => none
  | n + 1 => zD23_2_b   (zD23_2   n)
def zD23  (a1 : Int32) (a2 : Int32) (a3 : Nat) (μ : xe_Mem) : zO := zD23_2 zfu a1 a2 a3 0 μ
theorem zD23_2_bok {μ0 : xe_Mem} {δ : xe_Dy} {d : Nat} (hd : 10 ≤ d)  {c2 : Int32 → Int32 → Nat → Int32 → xe_Mem → zO} (hc2 : ∀ (v1 : Int32) (v2 : Int32) (v3 : Nat) (v4 : Int32) (μ : xe_Mem), zT zPc μ0 μ → zK zPc μ0 δ d 23 2 [some (.ref 2), some (.int v1), some (.int v2), some (.ref v3), some (.int v4)] [] μ (c2 v1 v2 v3 v4 μ)) : ∀ (v1 : Int32) (v2 : Int32) (v3 : Nat) (v4 : Int32) (μ : xe_Mem), zT zPc μ0 μ → zK zPc μ0 δ d 23 2 [some (.ref 2), some (.int v1), some (.int v2), some (.ref v3), some (.int v4)] [] μ (zD23_2_b  c2 v1 v2 v3 v4 μ) := by
  intro v1 v2 v3 v4 μ hT
  unfold zD23_2_b
  refine zK_op rfl rfl ?_
  refine zK_op rfl rfl ?_
  refine zK_op rfl rfl ?_
  refine zK_icge rfl (fun _ => ?_) (fun _ => ?_)
  · refine zK_op rfl rfl ?_
    exact zK_ret4 rfl hT
  refine zK_op rfl rfl ?_
  refine zK_op rfl rfl ?_
  refine zK_x (fun j1 h2 h3 h4 => ?_)
  refine zK_xaa rfl h2 h3 h4 ?_
  refine zK_op rfl rfl ?_
  refine zK_op rfl rfl ?_
  refine zK_op rfl rfl ?_
  refine zK_cI rfl (as := [.ref (1000001 + j1), .ref 2, .int v1, .int v2]) (rest := []) rfl rfl (ze_rcvK (zk_in h4)) (Nat.le_of_ble_eq_true rfl) (Nat.le_of_ble_eq_true rfl) (by decide) (fun _ => rfl) (by omega) (zD24_ok (by omega) (1000001 + j1) v1 v2 μ hT) (fun x7 m5 T6 => ?_)
  refine zK_ifeq rfl (fun _ => ?_) (fun _ => ?_)
  · refine zK_op rfl rfl ?_
    refine zK_op rfl rfl ?_
    exact hc2 v1 v2 v3 (v4 + (1)) m5 T6
  refine zK_op rfl rfl ?_
  refine zK_op rfl rfl ?_
  refine zK_x (fun j8 h9 h10 h11 => ?_)
  refine zK_xaa rfl h9 h10 h11 ?_
  exact zK_ret4 rfl T6
theorem zD23_2_ok {μ0 : xe_Mem} {δ : xe_Dy} {d : Nat} (hd : 10 ≤ d)  : ∀ n : Nat, ∀ (v1 : Int32) (v2 : Int32) (v3 : Nat) (v4 : Int32) (μ : xe_Mem), zT zPc μ0 μ → zK zPc μ0 δ d 23 2 [some (.ref 2), some (.int v1), some (.int v2), some (.ref v3), some (.int v4)] [] μ (zD23_2  n v1 v2 v3 v4 μ) := by
  intro n
  induction n with
  | zero => exact fun _ _ _ _ _ _  => fun o μ' h => by cases h
  | succ n ih => exact zD23_2_bok hd   ih
theorem zD23_ok {μ0 : xe_Mem} {δ : xe_Dy} {d : Nat} (hd : 10 ≤ d) (a1 : Int32) (a2 : Int32) (a3 : Nat) (μ : xe_Mem) (hT : zT zPc μ0 μ) : zK zPc μ0 δ d 23 0 (xe_init [.ref 2, .int a1, .int a2, .ref a3] (xM_L 23)) [] μ (zD23 a1 a2 a3 μ) := by
  unfold zD23
  show zK zPc μ0 δ d 23 0 [some (.ref 2), some (.int a1), some (.int a2), some (.ref a3), none] [] μ _
  refine zK_op rfl rfl ?_
  refine zK_op rfl rfl ?_
  exact zD23_2_ok hd zfu a1 a2 a3 0 μ hT
/-! 21 LogicalTimes$Tokens.splitName([BII)I -/
def zD21_41 (v2 : Int32) (v4 : Int32) (v5 : Int64) (s1 : Nat) (μ : xe_Mem) : zO := zq_cV (zD19 s1 v2 v5 μ) fun m4 => some (.inl (some (.int v4)), m4)
def zD21_28 (v2 : Int32) (v4 : Int32) (v5 : Int64) (μ : xe_Mem) : zO := if (v4 - v2) ≤ 8 then zq_cR (zD23 v2 v4 1000026 μ) fun x3 m1 => zD21_41 v2 v4 v5 x3 m1 else zD21_41 v2 v4 v5 1000029 μ
def zD21_17 (c4 : Int32 → Int32 → Int32 → Int64 → xe_Mem → zO) (v2 : Int32) (v3 : Int32) (v4 : Int32) (v5 : Int64) (μ : xe_Mem) : zO := zq_x v4 3000 fun j20 => zq_vL ((v5 <<< ((8 : Int32).toInt64 &&& 63)) ||| ((xe_I μ 2 j20).toInt64)) fun x24 => c4 v2 v3 (v4 + (1)) x24 μ
def zD21_4_b (c4 : Int32 → Int32 → Int32 → Int64 → xe_Mem → zO) (v2 : Int32) (v3 : Int32) (v4 : Int32) (v5 : Int64) (μ : xe_Mem) : zO := if v3 ≤ v4 then zD21_28 v2 v4 v5 μ else zq_x v4 3000 fun j6 => zq_cI (zD20 (xe_I μ 2 j6) μ) fun x12 m10 => if x12 = 0 then zq_x v4 3000 fun j13 => zq_cI (zD22 (xe_I m10 2 j13) m10) fun x19 m17 => if x19 = 0 then zD21_28 v2 v4 v5 m17 else zD21_17 c4 v2 v3 v4 v5 m17 else zD21_17 c4 v2 v3 v4 v5 m10
def zD21_4   : Nat → Int32 → Int32 → Int32 → Int64 → xe_Mem → zO
  | 0 => fun _ _ _ _ _  => none
  | n + 1 => zD21_4_b   (zD21_4   n)
def zD21  (a2 : Int32) (a3 : Int32) (μ : xe_Mem) : zO := zD21_4 zfu a2 a3 a2 0 μ
theorem zD21_41_ok {μ0 : xe_Mem} {δ : xe_Dy} {d : Nat} (hd : 11 ≤ d)  : ∀ (v2 : Int32) (v4 : Int32) (v5 : Int64) (s1 : Nat) (l0 : Option Value) (l1 : Option Value) (l3 : Option Value) (μ : xe_Mem), zT zPc μ0 μ → zK zPc μ0 δ d 21 41 [l0, l1, some (.int v2), l3, some (.int v4), some (.long v5), none] [.ref s1, .ref 3] μ (zD21_41  v2 v4 v5 s1 μ) := by
  intro v2 v4 v5 s1 l0 l1 l3 μ hT
  unfold zD21_41
  refine zK_op rfl rfl ?_
  refine zK_op rfl rfl ?_
  refine zK_cV rfl (as := [.ref 3, .ref s1, .int v2, .long v5]) (rest := []) rfl rfl (xe_rcvO (zT_sh hT rfl)) (Nat.le_of_ble_eq_true rfl) (Nat.le_of_ble_eq_true rfl) (by decide) (fun _ => rfl) (by omega) (zD19_ok (by omega) s1 v2 v5 μ hT) (fun m4 T5 => ?_)
  refine zK_op rfl rfl ?_
  exact zK_ret1 rfl T5
theorem zD21_28_ok {μ0 : xe_Mem} {δ : xe_Dy} {d : Nat} (hd : 11 ≤ d)  : ∀ (v2 : Int32) (v4 : Int32) (v5 : Int64) (l3 : Option Value) (μ : xe_Mem), zT zPc μ0 μ → zK zPc μ0 δ d 21 28 [some (.ref 3), some (.ref 2), some (.int v2), l3, some (.int v4), some (.long v5), none] [] μ (zD21_28  v2 v4 v5 μ) := by
  intro v2 v4 v5 l3 μ hT
  unfold zD21_28
  refine zK_op rfl rfl ?_
  refine zK_op rfl rfl ?_
  refine zK_op rfl rfl ?_
  refine zK_op rfl rfl ?_
  refine zK_op rfl rfl ?_
  refine zK_icle rfl (fun _ => ?_) (fun _ => ?_)
  · refine zK_op rfl rfl ?_
    refine zK_op rfl rfl ?_
    refine zK_op rfl rfl ?_
    refine zK_op rfl rfl ?_
    refine zK_cR rfl (as := [.ref 2, .int v2, .int v4, .ref 1000026]) (rest := [.ref 3]) rfl rfl rfl (Nat.le_of_ble_eq_true rfl) (Nat.le_of_ble_eq_true rfl) (by decide) (fun _ => rfl) (by omega) (zD23_ok (by omega) v2 v4 1000026 μ hT) (fun x3 m1 T2 => ?_)
    exact zD21_41_ok hd v2 v4 v5 x3 _ _ _ m1 T2
  refine zK_op rfl rfl ?_
  refine zK_op rfl rfl ?_
  exact zD21_41_ok hd v2 v4 v5 1000029 _ _ _ μ hT
theorem zD21_17_ok {μ0 : xe_Mem} {δ : xe_Dy} {d : Nat} (hd : 11 ≤ d) {c4 : Int32 → Int32 → Int32 → Int64 → xe_Mem → zO} (hc4 : ∀ (v2 : Int32) (v3 : Int32) (v4 : Int32) (v5 : Int64) (μ : xe_Mem), zT zPc μ0 μ → zK zPc μ0 δ d 21 4 [some (.ref 3), some (.ref 2), some (.int v2), some (.int v3), some (.int v4), some (.long v5), none] [] μ (c4 v2 v3 v4 v5 μ)) : ∀ (v2 : Int32) (v3 : Int32) (v4 : Int32) (v5 : Int64) (μ : xe_Mem), zT zPc μ0 μ → zK zPc μ0 δ d 21 17 [some (.ref 3), some (.ref 2), some (.int v2), some (.int v3), some (.int v4), some (.long v5), none] [] μ (zD21_17  c4 v2 v3 v4 v5 μ) := by
  intro v2 v3 v4 v5 μ hT
  unfold zD21_17
  refine zK_op rfl rfl ?_
  refine zK_op rfl rfl ?_
  refine zK_op rfl rfl ?_
  refine zK_op rfl rfl ?_
  refine zK_op rfl rfl ?_
  refine zK_x (fun j20 h21 h22 h23 => ?_)
  refine zK_aI rfl rfl hT h21 h22 h23 ?_
  refine zK_op rfl rfl ?_
  refine zK_op rfl rfl ?_
  refine zK_vL (fun x24 => ?_)
  refine zK_op rfl rfl ?_
  refine zK_op rfl rfl ?_
  refine zK_op rfl rfl ?_
  exact hc4 v2 v3 (v4 + (1)) x24 μ hT
theorem zD21_4_bok {μ0 : xe_Mem} {δ : xe_Dy} {d : Nat} (hd : 11 ≤ d)  {c4 : Int32 → Int32 → Int32 → Int64 → xe_Mem → zO} (hc4 : ∀ (v2 : Int32) (v3 : Int32) (v4 : Int32) (v5 : Int64) (μ : xe_Mem), zT zPc μ0 μ → zK zPc μ0 δ d 21 4 [some (.ref 3), some (.ref 2), some (.int v2), some (.int v3), some (.int v4), some (.long v5), none] [] μ (c4 v2 v3 v4 v5 μ)) : ∀ (v2 : Int32) (v3 : Int32) (v4 : Int32) (v5 : Int64) (μ : xe_Mem), zT zPc μ0 μ → zK zPc μ0 δ d 21 4 [some (.ref 3), some (.ref 2), some (.int v2), some (.int v3), some (.int v4), some (.long v5), none] [] μ (zD21_4_b  c4 v2 v3 v4 v5 μ) := by
  intro v2 v3 v4 v5 μ hT
  unfold zD21_4_b
  refine zK_op rfl rfl ?_
  refine zK_op rfl rfl ?_
  refine zK_icge rfl (fun _ => ?_) (fun _ => ?_)
  · exact zD21_28_ok hd v2 v4 v5 _ μ hT
  refine zK_op rfl rfl ?_
  refine zK_op rfl rfl ?_
  refine zK_x (fun j6 h7 h8 h9 => ?_)
  refine zK_aI rfl rfl hT h7 h8 h9 ?_
  refine zK_cI rfl (as := [.int (xe_I μ 2 j6)]) (rest := []) rfl rfl rfl (Nat.le_of_ble_eq_true rfl) (Nat.le_of_ble_eq_true rfl) (by decide) (fun _ => rfl) (by omega) (zD20_ok (by omega) (xe_I μ 2 j6) μ hT) (fun x12 m10 T11 => ?_)
  refine zK_ifne rfl (fun _ => ?_) (fun _ => ?_)
  · refine zK_op rfl rfl ?_
    refine zK_op rfl rfl ?_
    refine zK_x (fun j13 h14 h15 h16 => ?_)
    refine zK_aI rfl rfl T11 h14 h15 h16 ?_
    refine zK_cI rfl (as := [.int (xe_I m10 2 j13)]) (rest := []) rfl rfl rfl (Nat.le_of_ble_eq_true rfl) (Nat.le_of_ble_eq_true rfl) (by decide) (fun _ => rfl) (by omega) (zD22_ok (by omega) (xe_I m10 2 j13) m10 T11) (fun x19 m17 T18 => ?_)
    refine zK_ifeq rfl (fun _ => ?_) (fun _ => ?_)
    · exact zD21_28_ok hd v2 v4 v5 _ m17 T18
    exact zD21_17_ok hd hc4 v2 v3 v4 v5 m17 T18
  exact zD21_17_ok hd hc4 v2 v3 v4 v5 m10 T11
theorem zD21_4_ok {μ0 : xe_Mem} {δ : xe_Dy} {d : Nat} (hd : 11 ≤ d)  : ∀ n : Nat, ∀ (v2 : Int32) (v3 : Int32) (v4 : Int32) (v5 : Int64) (μ : xe_Mem), zT zPc μ0 μ → zK zPc μ0 δ d 21 4 [some (.ref 3), some (.ref 2), some (.int v2), some (.int v3), some (.int v4), some (.long v5), none] [] μ (zD21_4  n v2 v3 v4 v5 μ) := by
  intro n
  induction n with
  | zero => exact fun _ _ _ _ _ _  => fun o μ' h => by cases h
  | succ n ih => exact zD21_4_bok hd   ih
theorem zD21_ok {μ0 : xe_Mem} {δ : xe_Dy} {d : Nat} (hd : 11 ≤ d) (a2 : Int32) (a3 : Int32) (μ : xe_Mem) (hT : zT zPc μ0 μ) : zK zPc μ0 δ d 21 0 (xe_init [.ref 3, .ref 2, .int a2, .int a3] (xM_L 21)) [] μ (zD21 a2 a3 μ) := by
  unfold zD21
  show zK zPc μ0 δ d 21 0 [some (.ref 3), some (.ref 2), some (.int a2), some (.int a3), none, none, none] [] μ _
  refine zK_op rfl rfl ?_
  refine zK_op rfl rfl ?_
  refine zK_op rfl rfl ?_
  refine zK_op rfl rfl ?_
  exact zD21_4_ok hd zfu a2 a3 a2 0 μ hT
/-! 32 LogicalTimes$Tokens.splitNumber([BII)I -/
def zD32_34 (v2 : Int32) (v4 : Int32) (v5 : Int64) (s1 : Nat) (μ : xe_Mem) : zO := zq_cV (zD19 s1 v2 v5 μ) fun m1 => zq_m (xe_setI m1 3 4 v4) fun m3 => some (.inl (some (.int v4)), m3)
def zD32_25 (v2 : Int32) (v4 : Int32) (v5 : Int64) (μ : xe_Mem) : zO := if (v4 - v2) ≤ 6 then zD32_34 v2 v4 v5 1000027 μ else zD32_34 v2 v4 v5 1000029 μ
def zD32_4_b (c4 : Int32 → Int32 → Int32 → Int64 → xe_Mem → zO) (v2 : Int32) (v3 : Int32) (v4 : Int32) (v5 : Int64) (μ : xe_Mem) : zO := if v3 ≤ v4 then zD32_25 v2 v4 v5 μ else zq_x v4 3000 fun j5 => zq_cI (zD22 (xe_I μ 2 j5) μ) fun x11 m9 => if x11 = 0 then zD32_25 v2 v4 v5 m9 else zq_x v4 3000 fun j12 => zq_vL ((v5 * 10) + (((xe_I m9 2 j12) - 48).toInt64)) fun x16 => c4 v2 v3 (v4 + (1)) x16 m9
def zD32_4   : Nat → Int32 → Int32 → Int32 → Int64 → xe_Mem → zO
  | 0 => fun _ _ _ _ _  => none
  | n + 1 => zD32_4_b   (zD32_4   n)
def zD32  (a2 : Int32) (a3 : Int32) (μ : xe_Mem) : zO := zD32_4 zfu a2 a3 a2 0 μ
theorem zD32_34_ok {μ0 : xe_Mem} {δ : xe_Dy} {d : Nat} (hd : 1 ≤ d)  : ∀ (v2 : Int32) (v4 : Int32) (v5 : Int64) (s1 : Nat) (l1 : Option Value) (l3 : Option Value) (μ : xe_Mem), zT zPc μ0 μ → zK zPc μ0 δ d 32 34 [some (.ref 3), l1, some (.int v2), l3, some (.int v4), some (.long v5), none] [.ref s1, .ref 3] μ (zD32_34  v2 v4 v5 s1 μ) := by
  intro v2 v4 v5 s1 l1 l3 μ hT
  unfold zD32_34
  refine zK_op rfl rfl ?_
  refine zK_op rfl rfl ?_
  refine zK_cV rfl (as := [.ref 3, .ref s1, .int v2, .long v5]) (rest := []) rfl rfl (xe_rcvO (zT_sh hT rfl)) (Nat.le_of_ble_eq_true rfl) (Nat.le_of_ble_eq_true rfl) (by decide) (fun _ => rfl) (by omega) (zD19_ok (by omega) s1 v2 v5 μ hT) (fun m1 T2 => ?_)
  refine zK_op rfl rfl ?_
  refine zK_op rfl rfl ?_
  refine zK_pI rfl rfl T2 rfl (fun m3 T4 => ?_)
  refine zK_op rfl rfl ?_
  exact zK_ret1 rfl T4
theorem zD32_25_ok {μ0 : xe_Mem} {δ : xe_Dy} {d : Nat} (hd : 1 ≤ d)  : ∀ (v2 : Int32) (v4 : Int32) (v5 : Int64) (l1 : Option Value) (l3 : Option Value) (μ : xe_Mem), zT zPc μ0 μ → zK zPc μ0 δ d 32 25 [some (.ref 3), l1, some (.int v2), l3, some (.int v4), some (.long v5), none] [] μ (zD32_25  v2 v4 v5 μ) := by
  intro v2 v4 v5 l1 l3 μ hT
  unfold zD32_25
  refine zK_op rfl rfl ?_
  refine zK_op rfl rfl ?_
  refine zK_op rfl rfl ?_
  refine zK_op rfl rfl ?_
  refine zK_op rfl rfl ?_
  refine zK_icle rfl (fun _ => ?_) (fun _ => ?_)
  · refine zK_op rfl rfl ?_
    exact zD32_34_ok hd v2 v4 v5 1000027 _ _ μ hT
  refine zK_op rfl rfl ?_
  refine zK_op rfl rfl ?_
  exact zD32_34_ok hd v2 v4 v5 1000029 _ _ μ hT
theorem zD32_4_bok {μ0 : xe_Mem} {δ : xe_Dy} {d : Nat} (hd : 1 ≤ d)  {c4 : Int32 → Int32 → Int32 → Int64 → xe_Mem → zO} (hc4 : ∀ (v2 : Int32) (v3 : Int32) (v4 : Int32) (v5 : Int64) (μ : xe_Mem), zT zPc μ0 μ → zK zPc μ0 δ d 32 4 [some (.ref 3), some (.ref 2), some (.int v2), some (.int v3), some (.int v4), some (.long v5), none] [] μ (c4 v2 v3 v4 v5 μ)) : ∀ (v2 : Int32) (v3 : Int32) (v4 : Int32) (v5 : Int64) (μ : xe_Mem), zT zPc μ0 μ → zK zPc μ0 δ d 32 4 [some (.ref 3), some (.ref 2), some (.int v2), some (.int v3), some (.int v4), some (.long v5), none] [] μ (zD32_4_b  c4 v2 v3 v4 v5 μ) := by
  intro v2 v3 v4 v5 μ hT
  unfold zD32_4_b
  refine zK_op rfl rfl ?_
  refine zK_op rfl rfl ?_
  refine zK_icge rfl (fun _ => ?_) (fun _ => ?_)
  · exact zD32_25_ok hd v2 v4 v5 _ _ μ hT
  refine zK_op rfl rfl ?_
  refine zK_op rfl rfl ?_
  refine zK_x (fun j5 h6 h7 h8 => ?_)
  refine zK_aI rfl rfl hT h6 h7 h8 ?_
  refine zK_cI rfl (as := [.int (xe_I μ 2 j5)]) (rest := []) rfl rfl rfl (Nat.le_of_ble_eq_true rfl) (Nat.le_of_ble_eq_true rfl) (by decide) (fun _ => rfl) (by omega) (zD22_ok (by omega) (xe_I μ 2 j5) μ hT) (fun x11 m9 T10 => ?_)
  refine zK_ifeq rfl (fun _ => ?_) (fun _ => ?_)
  · exact zD32_25_ok hd v2 v4 v5 _ _ m9 T10
  refine zK_op rfl rfl ?_
  refine zK_op rfl rfl ?_
  refine zK_op rfl rfl ?_
  refine zK_op rfl rfl ?_
  refine zK_op rfl rfl ?_
  refine zK_x (fun j12 h13 h14 h15 => ?_)
  refine zK_aI rfl rfl T10 h13 h14 h15 ?_
  refine zK_op rfl rfl ?_
  refine zK_op rfl rfl ?_
  refine zK_op rfl rfl ?_
  refine zK_op rfl rfl ?_
  refine zK_vL (fun x16 => ?_)
  refine zK_op rfl rfl ?_
  refine zK_op rfl rfl ?_
  refine zK_op rfl rfl ?_
  exact hc4 v2 v3 (v4 + (1)) x16 m9 T10
theorem zD32_4_ok {μ0 : xe_Mem} {δ : xe_Dy} {d : Nat} (hd : 1 ≤ d)  : ∀ n : Nat, ∀ (v2 : Int32) (v3 : Int32) (v4 : Int32) (v5 : Int64) (μ : xe_Mem), zT zPc μ0 μ → zK zPc μ0 δ d 32 4 [some (.ref 3), some (.ref 2), some (.int v2), some (.int v3), some (.int v4), some (.long v5), none] [] μ (zD32_4  n v2 v3 v4 v5 μ) := by
  intro n
  induction n with
  | zero => exact fun _ _ _ _ _ _  => fun o μ' h => by cases h
  | succ n ih => exact zD32_4_bok hd   ih
theorem zD32_ok {μ0 : xe_Mem} {δ : xe_Dy} {d : Nat} (hd : 1 ≤ d) (a2 : Int32) (a3 : Int32) (μ : xe_Mem) (hT : zT zPc μ0 μ) : zK zPc μ0 δ d 32 0 (xe_init [.ref 3, .ref 2, .int a2, .int a3] (xM_L 32)) [] μ (zD32 a2 a3 μ) := by
  unfold zD32
  show zK zPc μ0 δ d 32 0 [some (.ref 3), some (.ref 2), some (.int a2), some (.int a3), none, none, none] [] μ _
  refine zK_op rfl rfl ?_
  refine zK_op rfl rfl ?_
  refine zK_op rfl rfl ?_
  refine zK_op rfl rfl ?_
  exact zD32_4_ok hd zfu a2 a3 a2 0 μ hT
/-! 18 LogicalTimes$Tokens.splitNext([BII)I -/
def zD18_25 (v2 : Int32) (v3 : Int32) (μ : xe_Mem) : zO := zq_x v2 3000 fun j10 => zq_cI (zD22 (xe_I μ 2 j10) μ) fun x16 m14 => if x16 = 0 then zq_cR (zD23 v2 (v2 + 1) 1000029 m14) fun x19 m17 => zq_cV (zD19 x19 v2 0 m17) fun m20 => some (.inl (some (.int (v2 + 1))), m20) else zq_cI (zD32 v2 v3 m14) fun x24 m22 => some (.inl (some (.int x24)), m22)
def zD18  (a2 : Int32) (a3 : Int32) (μ : xe_Mem) : zO := if a2 = a3 then zq_cV (zD19 1000028 a2 0 μ) fun m1 => some (.inl (some (.int a2)), m1) else zq_x a2 3000 fun j3 => zq_cI (zD20 (xe_I μ 2 j3) μ) fun x9 m7 => if x9 = 0 then zD18_25 a2 a3 m7 else if a2 = (xe_I m7 3 4) then zD18_25 a2 a3 m7 else zq_cI (zD21 a2 a3 m7) fun x27 m25 => some (.inl (some (.int x27)), m25)
theorem zD18_25_ok {μ0 : xe_Mem} {δ : xe_Dy} {d : Nat} (hd : 12 ≤ d)  : ∀ (v2 : Int32) (v3 : Int32) (μ : xe_Mem), zT zPc μ0 μ → zK zPc μ0 δ d 18 25 [some (.ref 3), some (.ref 2), some (.int v2), some (.int v3)] [] μ (zD18_25  v2 v3 μ) := by
  intro v2 v3 μ hT
  unfold zD18_25
  refine zK_op rfl rfl ?_
  refine zK_op rfl rfl ?_
  refine zK_x (fun j10 h11 h12 h13 => ?_)
  refine zK_aI rfl rfl hT h11 h12 h13 ?_
  refine zK_cI rfl (as := [.int (xe_I μ 2 j10)]) (rest := []) rfl rfl rfl (Nat.le_of_ble_eq_true rfl) (Nat.le_of_ble_eq_true rfl) (by decide) (fun _ => rfl) (by omega) (zD22_ok (by omega) (xe_I μ 2 j10) μ hT) (fun x16 m14 T15 => ?_)
  refine zK_ifeq rfl (fun _ => ?_) (fun _ => ?_)
  · refine zK_op rfl rfl ?_
    refine zK_op rfl rfl ?_
    refine zK_op rfl rfl ?_
    refine zK_op rfl rfl ?_
    refine zK_op rfl rfl ?_
    refine zK_op rfl rfl ?_
    refine zK_op rfl rfl ?_
    refine zK_cR rfl (as := [.ref 2, .int v2, .int (v2 + 1), .ref 1000029]) (rest := [.ref 3]) rfl rfl rfl (Nat.le_of_ble_eq_true rfl) (Nat.le_of_ble_eq_true rfl) (by decide) (fun _ => rfl) (by omega) (zD23_ok (by omega) v2 (v2 + 1) 1000029 m14 T15) (fun x19 m17 T18 => ?_)
    refine zK_op rfl rfl ?_
    refine zK_op rfl rfl ?_
    refine zK_cV rfl (as := [.ref 3, .ref x19, .int v2, .long 0]) (rest := []) rfl rfl (xe_rcvO (zT_sh T18 rfl)) (Nat.le_of_ble_eq_true rfl) (Nat.le_of_ble_eq_true rfl) (by decide) (fun _ => rfl) (by omega) (zD19_ok (by omega) x19 v2 0 m17 T18) (fun m20 T21 => ?_)
    refine zK_op rfl rfl ?_
    refine zK_op rfl rfl ?_
    refine zK_op rfl rfl ?_
    exact zK_ret1 rfl T21
  refine zK_op rfl rfl ?_
  refine zK_op rfl rfl ?_
  refine zK_op rfl rfl ?_
  refine zK_op rfl rfl ?_
  refine zK_cI rfl (as := [.ref 3, .ref 2, .int v2, .int v3]) (rest := []) rfl rfl (xe_rcvO (zT_sh T15 rfl)) (Nat.le_of_ble_eq_true rfl) (Nat.le_of_ble_eq_true rfl) (by decide) (fun _ => rfl) (by omega) (zD32_ok (by omega) v2 v3 m14 T15) (fun x24 m22 T23 => ?_)
  exact zK_ret1 rfl T23
theorem zD18_ok {μ0 : xe_Mem} {δ : xe_Dy} {d : Nat} (hd : 12 ≤ d) (a2 : Int32) (a3 : Int32) (μ : xe_Mem) (hT : zT zPc μ0 μ) : zK zPc μ0 δ d 18 0 (xe_init [.ref 3, .ref 2, .int a2, .int a3] (xM_L 18)) [] μ (zD18 a2 a3 μ) := by
  unfold zD18
  show zK zPc μ0 δ d 18 0 [some (.ref 3), some (.ref 2), some (.int a2), some (.int a3)] [] μ _
  refine zK_op rfl rfl ?_
  refine zK_op rfl rfl ?_
  refine zK_icne rfl (fun _ => ?_) (fun _ => ?_)
  · refine zK_op rfl rfl ?_
    refine zK_op rfl rfl ?_
    refine zK_op rfl rfl ?_
    refine zK_op rfl rfl ?_
    refine zK_cV rfl (as := [.ref 3, .ref 1000028, .int a2, .long 0]) (rest := []) rfl rfl (xe_rcvO (zT_sh hT rfl)) (Nat.le_of_ble_eq_true rfl) (Nat.le_of_ble_eq_true rfl) (by decide) (fun _ => rfl) (by omega) (zD19_ok (by omega) 1000028 a2 0 μ hT) (fun m1 T2 => ?_)
    refine zK_op rfl rfl ?_
    exact zK_ret1 rfl T2
  refine zK_op rfl rfl ?_
  refine zK_op rfl rfl ?_
  refine zK_x (fun j3 h4 h5 h6 => ?_)
  refine zK_aI rfl rfl hT h4 h5 h6 ?_
  refine zK_cI rfl (as := [.int (xe_I μ 2 j3)]) (rest := []) rfl rfl rfl (Nat.le_of_ble_eq_true rfl) (Nat.le_of_ble_eq_true rfl) (by decide) (fun _ => rfl) (by omega) (zD20_ok (by omega) (xe_I μ 2 j3) μ hT) (fun x9 m7 T8 => ?_)
  refine zK_ifeq rfl (fun _ => ?_) (fun _ => ?_)
  · exact zD18_25_ok hd a2 a3 m7 T8
  refine zK_op rfl rfl ?_
  refine zK_op rfl rfl ?_
  refine zK_gI rfl rfl T8 ?_
  refine zK_iceq rfl (fun _ => ?_) (fun _ => ?_)
  · exact zD18_25_ok hd a2 a3 m7 T8
  refine zK_op rfl rfl ?_
  refine zK_op rfl rfl ?_
  refine zK_op rfl rfl ?_
  refine zK_op rfl rfl ?_
  refine zK_cI rfl (as := [.ref 3, .ref 2, .int a2, .int a3]) (rest := []) rfl rfl (xe_rcvO (zT_sh T8 rfl)) (Nat.le_of_ble_eq_true rfl) (Nat.le_of_ble_eq_true rfl) (by decide) (fun _ => rfl) (by omega) (zD21_ok (by omega) a2 a3 m7 T8) (fun x27 m25 T26 => ?_)
  exact zK_ret1 rfl T26
/-! 16 LogicalTimes$Tokens.split([BI)V -/
def zD16_40 (μ : xe_Mem) : zO := some (.inl none, μ)
def zD16_10_b (c10 : Int32 → Int32 → Int32 → xe_Mem → zO) (v2 : Int32) (v3 : Int32) (v4 : Int32) (μ : xe_Mem) : zO := if v2 < v4 then some (.inl none, μ) else zq_cI (zD17 v3 v2 μ) fun x7 m5 => zq_cI (zD18 x7 v2 m5) fun x10 m8 => zq_x ((xe_I m8 3 3) - 1) 3001 fun j11 => zq_s (xe_R m8 4 j11) fun b15 => zq_k b15 <| if b15 = 1000028 then zD16_40 m8 else zq_x ((xe_I m8 3 3) - 1) 3001 fun j17 => zq_s (xe_R m8 4 j17) fun b21 => zq_k b21 <| if b21 = 1000029 then zD16_40 m8 else c10 v2 x10 (v4 + (1)) m8
def zD16_10   : Nat → Int32 → Int32 → Int32 → xe_Mem → zO
  | 0 => fun _ _ _ _  => none
  | n + 1 => zD16_10_b   (zD16_10   n)
def zD16  (a2 : Int32) (μ : xe_Mem) : zO := zq_m (xe_setI μ 3 3 0) fun m1 => zq_m (xe_setI m1 3 4 ((-1))) fun m3 => zD16_10 zfu a2 0 0 m3
theorem zD16_40_ok {μ0 : xe_Mem} {δ : xe_Dy} {d : Nat} (hd : 13 ≤ d)  : ∀ (l0 : Option Value) (l1 : Option Value) (l2 : Option Value) (l3 : Option Value) (l4 : Option Value) (μ : xe_Mem), zT zPc μ0 μ → zK zPc μ0 δ d 16 40 [l0, l1, l2, l3, l4] [] μ (zD16_40  μ) := by
  intro l0 l1 l2 l3 l4 μ hT
  unfold zD16_40
  exact zK_ret0 rfl hT
theorem zD16_10_bok {μ0 : xe_Mem} {δ : xe_Dy} {d : Nat} (hd : 13 ≤ d)  {c10 : Int32 → Int32 → Int32 → xe_Mem → zO} (hc10 : ∀ (v2 : Int32) (v3 : Int32) (v4 : Int32) (μ : xe_Mem), zT zPc μ0 μ → zK zPc μ0 δ d 16 10 [some (.ref 3), some (.ref 2), some (.int v2), some (.int v3), some (.int v4)] [] μ (c10 v2 v3 v4 μ)) : ∀ (v2 : Int32) (v3 : Int32) (v4 : Int32) (μ : xe_Mem), zT zPc μ0 μ → zK zPc μ0 δ d 16 10 [some (.ref 3), some (.ref 2), some (.int v2), some (.int v3), some (.int v4)] [] μ (zD16_10_b  c10 v2 v3 v4 μ) := by
  intro v2 v3 v4 μ hT
  unfold zD16_10_b
  refine zK_op rfl rfl ?_
  refine zK_op rfl rfl ?_
  refine zK_icgt rfl (fun _ => ?_) (fun _ => ?_)
  · exact zK_ret0 rfl hT
  refine zK_op rfl rfl ?_
  refine zK_op rfl rfl ?_
  refine zK_op rfl rfl ?_
  refine zK_op rfl rfl ?_
  refine zK_op rfl rfl ?_
  refine zK_cI rfl (as := [.ref 2, .int v3, .int v2]) (rest := [.ref 2, .ref 3]) rfl rfl rfl (Nat.le_of_ble_eq_true rfl) (Nat.le_of_ble_eq_true rfl) (by decide) (fun _ => rfl) (by omega) (zD17_ok (by omega) v3 v2 μ hT) (fun x7 m5 T6 => ?_)
  refine zK_op rfl rfl ?_
  refine zK_cI rfl (as := [.ref 3, .ref 2, .int x7, .int v2]) (rest := []) rfl rfl (xe_rcvO (zT_sh T6 rfl)) (Nat.le_of_ble_eq_true rfl) (Nat.le_of_ble_eq_true rfl) (by decide) (fun _ => rfl) (by omega) (zD18_ok (by omega) x7 v2 m5 T6) (fun x10 m8 T9 => ?_)
  refine zK_op rfl rfl ?_
  refine zK_op rfl rfl ?_
  refine zK_gRl (b := 4) rfl rfl rfl T9 ?_
  refine zK_op rfl rfl ?_
  refine zK_gI rfl rfl T9 ?_
  refine zK_op rfl rfl ?_
  refine zK_op rfl rfl ?_
  refine zK_x (fun j11 h12 h13 h14 => ?_)
  refine zK_aR rfl rfl T9 h12 h13 h14 (fun b15 => ?_)
  refine zK_op rfl rfl ?_
  refine zK_k (fun h16 => ?_)
  refine zK_aceq rfl h16 (by decide) (fun _ => ?_) (fun _ => ?_)
  · exact zD16_40_ok hd _ _ _ _ _ m8 T9
  refine zK_op rfl rfl ?_
  refine zK_gRl (b := 4) rfl rfl rfl T9 ?_
  refine zK_op rfl rfl ?_
  refine zK_gI rfl rfl T9 ?_
  refine zK_op rfl rfl ?_
  refine zK_op rfl rfl ?_
  refine zK_x (fun j17 h18 h19 h20 => ?_)
  refine zK_aR rfl rfl T9 h18 h19 h20 (fun b21 => ?_)
  refine zK_op rfl rfl ?_
  refine zK_k (fun h22 => ?_)
  refine zK_acne rfl h22 (by decide) (fun _ => ?_) (fun _ => ?_)
  · exact zD16_40_ok hd _ _ _ _ _ m8 T9
  refine zK_op rfl rfl ?_
  refine zK_op rfl rfl ?_
  exact hc10 v2 x10 (v4 + (1)) m8 T9
theorem zD16_10_ok {μ0 : xe_Mem} {δ : xe_Dy} {d : Nat} (hd : 13 ≤ d)  : ∀ n : Nat, ∀ (v2 : Int32) (v3 : Int32) (v4 : Int32) (μ : xe_Mem), zT zPc μ0 μ → zK zPc μ0 δ d 16 10 [some (.ref 3), some (.ref 2), some (.int v2), some (.int v3), some (.int v4)] [] μ (zD16_10  n v2 v3 v4 μ) := by
  intro n
  induction n with
  | zero => exact fun _ _ _ _ _  => fun o μ' h => by cases h
  | succ n ih => exact zD16_10_bok hd   ih
theorem zD16_ok {μ0 : xe_Mem} {δ : xe_Dy} {d : Nat} (hd : 13 ≤ d) (a2 : Int32) (μ : xe_Mem) (hT : zT zPc μ0 μ) : zK zPc μ0 δ d 16 0 (xe_init [.ref 3, .ref 2, .int a2] (xM_L 16)) [] μ (zD16 a2 μ) := by
  unfold zD16
  show zK zPc μ0 δ d 16 0 [some (.ref 3), some (.ref 2), some (.int a2), none, none] [] μ _
  refine zK_op rfl rfl ?_
  refine zK_op rfl rfl ?_
  refine zK_pI rfl rfl hT rfl (fun m1 T2 => ?_)
  refine zK_op rfl rfl ?_
  refine zK_op rfl rfl ?_
  refine zK_pI rfl rfl T2 rfl (fun m3 T4 => ?_)
  refine zK_op rfl rfl ?_
  refine zK_op rfl rfl ?_
  refine zK_op rfl rfl ?_
  refine zK_op rfl rfl ?_
  exact zD16_10_ok hd zfu a2 0 0 m3 T4
/-! 34 LogicalTimes$Program.clear()V -/
def zD34   (μ : xe_Mem) : zO := zq_m (xe_setI μ 8 2 0) fun m1 => zq_m (xe_setI m1 7 4 0) fun m3 => zq_m (xe_setI m3 7 5 0) fun m5 => zq_m (xe_setI m5 7 6 0) fun m7 => zq_m (xe_setI m7 7 7 0) fun m9 => some (.inl none, m9)
theorem zD34_ok {μ0 : xe_Mem} {δ : xe_Dy} {d : Nat} (hd : 0 ≤ d) (μ : xe_Mem) (hT : zT zPc μ0 μ) : zK zPc μ0 δ d 34 0 (xe_init [.ref 7] (xM_L 34)) [] μ (zD34 μ) := by
  unfold zD34
  show zK zPc μ0 δ d 34 0 [some (.ref 7)] [] μ _
  refine zK_op rfl rfl ?_
  refine zK_gRl (b := 8) rfl rfl rfl hT ?_
  refine zK_op rfl rfl ?_
  refine zK_pI rfl rfl hT rfl (fun m1 T2 => ?_)
  refine zK_op rfl rfl ?_
  refine zK_op rfl rfl ?_
  refine zK_pI rfl rfl T2 rfl (fun m3 T4 => ?_)
  refine zK_op rfl rfl ?_
  refine zK_op rfl rfl ?_
  refine zK_pI rfl rfl T4 rfl (fun m5 T6 => ?_)
  refine zK_op rfl rfl ?_
  refine zK_op rfl rfl ?_
  refine zK_pI rfl rfl T6 rfl (fun m7 T8 => ?_)
  refine zK_op rfl rfl ?_
  refine zK_op rfl rfl ?_
  refine zK_pI rfl rfl T8 rfl (fun m9 T10 => ?_)
  exact zK_ret0 rfl T10
/-! 35 LogicalTimes$Reader.isAt(LLogicalTimes$Kind;)Z -/
def zD35_11 (s0 : Int32) (μ : xe_Mem) : zO := zq_z s0 <| some (.inl (some (.int s0)), μ)
def zD35  (a1 : Nat) (μ : xe_Mem) : zO := zq_x (xe_I μ 181 6) 3001 fun j1 => zq_s (xe_R μ 4 j1) fun b5 => zq_k b5 <| zq_k a1 <| if b5 = a1 then zD35_11 1 μ else zD35_11 0 μ
theorem zD35_11_ok {μ0 : xe_Mem} {δ : xe_Dy} {d : Nat} (hd : 0 ≤ d)  : ∀ (s0 : Int32) (l0 : Option Value) (l1 : Option Value) (μ : xe_Mem), zT zPc μ0 μ → zK zPc μ0 δ d 35 11 [l0, l1] [.int s0] μ (zD35_11  s0 μ) := by
  intro s0 l0 l1 μ hT
  unfold zD35_11
  exact zK_ret3z rfl hT
theorem zD35_ok {μ0 : xe_Mem} {δ : xe_Dy} {d : Nat} (hd : 0 ≤ d) (a1 : Nat) (μ : xe_Mem) (hT : zT zPc μ0 μ) : zK zPc μ0 δ d 35 0 (xe_init [.ref 181, .ref a1] (xM_L 35)) [] μ (zD35 a1 μ) := by
  unfold zD35
  show zK zPc μ0 δ d 35 0 [some (.ref 181), some (.ref a1)] [] μ _
  refine zK_op rfl rfl ?_
  refine zK_gRl (b := 3) rfl rfl rfl hT ?_
  refine zK_gRl (b := 4) rfl rfl rfl hT ?_
  refine zK_op rfl rfl ?_
  refine zK_gI rfl rfl hT ?_
  refine zK_x (fun j1 h2 h3 h4 => ?_)
  refine zK_aR rfl rfl hT h2 h3 h4 (fun b5 => ?_)
  refine zK_op rfl rfl ?_
  refine zK_k (fun h6 => ?_)
  refine zK_k (fun h7 => ?_)
  refine zK_acne rfl h6 h7 (fun _ => ?_) (fun _ => ?_)
  · refine zK_op rfl rfl ?_
    refine zK_op rfl rfl ?_
    exact zD35_11_ok hd 1 _ _ μ hT
  refine zK_op rfl rfl ?_
  exact zD35_11_ok hd 0 _ _ μ hT
