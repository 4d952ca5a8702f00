/-! methods as functions (by wip/whole/gen/dec.py) -/
/-! 136 LogicalTimesModel.isLetter(I)Z -/
def zD136_15 (s0 : Int32) (μ : xe_Mem) : zO := zq_z s0 <| some (.inl (some (.int s0)), μ)
def zD136_12 (μ : xe_Mem) : zO := zD136_15 1 μ
def zD136  (a0 : Int32) (μ : xe_Mem) : zO := zq_cI (zD132 a0.toInt64 97 122 μ) fun x3 m1 => if x3 = 0 then zq_cI (zD132 a0.toInt64 65 90 m1) fun x6 m4 => if x6 = 0 then zD136_15 0 m4 else zD136_12 m4 else zD136_12 m1
theorem zD136_15_ok {μ0 : xe_Mem} {δ : xe_Dy} {d : Nat} (hd : 1 ≤ d)  : ∀ (s0 : Int32) (l0 : Option Value) (μ : xe_Mem), zT zPr μ0 μ → zK zPr μ0 δ d 136 15 [l0] [.int s0] μ (zD136_15  s0 μ) := by
  intro s0 l0 μ hT
  unfold zD136_15
  exact zK_ret3z rfl hT
theorem zD136_12_ok {μ0 : xe_Mem} {δ : xe_Dy} {d : Nat} (hd : 1 ≤ d)  : ∀ (l0 : Option Value) (μ : xe_Mem), zT zPr μ0 μ → zK zPr μ0 δ d 136 12 [l0] [] μ (zD136_12  μ) := by
  intro l0 μ hT
  unfold zD136_12
  refine zK_op rfl rfl ?_
  refine zK_op rfl rfl ?_
  exact zD136_15_ok hd 1 _ μ hT
theorem zD136_ok {μ0 : xe_Mem} {δ : xe_Dy} {d : Nat} (hd : 1 ≤ d) (a0 : Int32) (μ : xe_Mem) (hT : zT zPr μ0 μ) : zK zPr μ0 δ d 136 0 (xe_init [.int a0] (xM_L 136)) [] μ (zD136 a0 μ) := by
  unfold zD136
  show zK zPr μ0 δ d 136 0 [some (.int a0)] [] μ _
  refine zK_op rfl rfl ?_
  refine zK_op rfl rfl ?_
  refine zK_op rfl rfl ?_
  refine zK_op rfl rfl ?_
  refine zK_cI rfl (as := [.long a0.toInt64, .long 97, .long 122]) (rest := []) rfl rfl rfl (Nat.le_of_ble_eq_true rfl) (Nat.le_of_ble_eq_true rfl) (by decide) (fun _ => rfl) (by omega) (zD132_ok (by omega) a0.toInt64 97 122 μ hT) (fun x3 m1 T2 => ?_)
  refine zK_ifne rfl (fun _ => ?_) (fun _ => ?_)
  · refine zK_op rfl rfl ?_
    refine zK_op rfl rfl ?_
    refine zK_op rfl rfl ?_
    refine zK_op rfl rfl ?_
    refine zK_cI rfl (as := [.long a0.toInt64, .long 65, .long 90]) (rest := []) rfl rfl rfl (Nat.le_of_ble_eq_true rfl) (Nat.le_of_ble_eq_true rfl) (by decide) (fun _ => rfl) (by omega) (zD132_ok (by omega) a0.toInt64 65 90 m1 T2) (fun x6 m4 T5 => ?_)
    refine zK_ifeq rfl (fun _ => ?_) (fun _ => ?_)
    · refine zK_op rfl rfl ?_
      exact zD136_15_ok hd 0 _ m4 T5
    exact zD136_12_ok hd _ m4 T5
  exact zD136_12_ok hd _ m1 T2
/-! 137 LogicalTimesModel.isDigit(I)Z -/
def zD137  (a0 : Int32) (μ : xe_Mem) : zO := zq_cI (zD132 a0.toInt64 48 57 μ) fun x3 m1 => zq_z x3 <| some (.inl (some (.int x3)), m1)
theorem zD137_ok {μ0 : xe_Mem} {δ : xe_Dy} {d : Nat} (hd : 1 ≤ d) (a0 : Int32) (μ : xe_Mem) (hT : zT zPr μ0 μ) : zK zPr μ0 δ d 137 0 (xe_init [.int a0] (xM_L 137)) [] μ (zD137 a0 μ) := by
  unfold zD137
  show zK zPr μ0 δ d 137 0 [some (.int a0)] [] μ _
  refine zK_op rfl rfl ?_
  refine zK_op rfl rfl ?_
  refine zK_op rfl rfl ?_
  refine zK_op rfl rfl ?_
  refine zK_cI rfl (as := [.long a0.toInt64, .long 48, .long 57]) (rest := []) rfl rfl rfl (Nat.le_of_ble_eq_true rfl) (Nat.le_of_ble_eq_true rfl) (by decide) (fun _ => rfl) (by omega) (zD132_ok (by omega) a0.toInt64 48 57 μ hT) (fun x3 m1 T2 => ?_)
  exact zK_ret3z rfl T2
/-! 138 LogicalTimesModel.name(IIZ)V -/
def zD138_66 (μ : xe_Mem) : zO := some (.inl none, μ)
def zD138_65 (s1 : Int32) (s2 : Int32) (s3 : Int64) (μ : xe_Mem) : zO := zq_cV (zD135 s1 s2 s3 μ) fun m1 => zD138_66 m1
def zD138_58 (v1 : Int32) (v4 : Int64) (v6 : Int32) (s1 : Int32) (μ : xe_Mem) : zO := if v6 < 0 then zD138_65 s1 v1 v4 μ else zD138_65 s1 v1 v6.toInt64 μ
def zD138_46 (v1 : Int32) (μ : xe_Mem) : zO := zq_cV (zD135 5 v1 0 μ) fun m3 => zD138_66 m3
def zD138_36 (c23 : Int32 → Int32 → Int32 → Int64 → Int32 → Int32 → xe_Mem → zO) (v1 : Int32) (v2 : Int32) (v3 : Int32) (v4 : Int64) (v7 : Int32) (s0 : Int32) (μ : xe_Mem) : zO := c23 v1 v2 v3 v4 s0 (v7 + (1)) μ
def zD138_23_b (c23 : Int32 → Int32 → Int32 → Int64 → Int32 → Int32 → xe_Mem → zO) (v1 : Int32) (v2 : Int32) (v3 : Int32) (v4 : Int64) (v6 : Int32) (v7 : Int32) (μ : xe_Mem) : zO := if 11 ≤ v7 then if v3 = 0 then if (v2 - v1) ≤ 8 then if v6 < 0 then zD138_58 v1 v4 v6 1 μ else zD138_58 v1 v4 v6 4 μ else zD138_46 v1 μ else zD138_46 v1 μ else zq_x v7 11 fun j5 => if (lg_cmp (xe_L μ 206 j5) v4) = 0 then zD138_36 c23 v1 v2 v3 v4 v7 v7 μ else zD138_36 c23 v1 v2 v3 v4 v7 v6 μ
def zD138_23   : Nat → Int32 → Int32 → Int32 → Int64 → Int32 → Int32 → xe_Mem → zO
  | 0 => fun _ _ _ _ _ _ _  => none
  | n + 1 => zD138_23_b   (zD138_23   n)
def zD138_4_b (c4 : Int32 → Int32 → Int32 → Int64 → Int32 → xe_Mem → zO) (v1 : Int32) (v2 : Int32) (v3 : Int32) (v4 : Int64) (v6 : Int32) (μ : xe_Mem) : zO := if v2 ≤ v6 then zD138_23 zfu v1 v2 v3 v4 ((-1)) 0 μ else zq_x v6 3000 fun j9 => zq_vL ((v4 <<< ((8 : Int32).toInt64 &&& 63)) ||| ((xe_I μ 205 j9).toInt64)) fun x13 => c4 v1 v2 v3 x13 (v6 + (1)) μ
def zD138_4   : Nat → Int32 → Int32 → Int32 → Int64 → Int32 → xe_Mem → zO
  | 0 => fun _ _ _ _ _ _  => none
  | n + 1 => zD138_4_b   (zD138_4   n)
def zD138  (a1 : Int32) (a2 : Int32) (a3 : Int32) (μ : xe_Mem) : zO := zD138_4 zfu a1 a2 a3 0 a1 μ
theorem zD138_66_ok {μ0 : xe_Mem} {δ : xe_Dy} {d : Nat} (hd : 1 ≤ d)  : ∀ (l0 : Option Value) (l1 : Option Value) (l2 : Option Value) (l3 : Option Value) (l4 : Option Value) (l6 : Option Value) (l7 : Option Value) (μ : xe_Mem), zT zPr μ0 μ → zK zPr μ0 δ d 138 66 [l0, l1, l2, l3, l4, none, l6, l7] [] μ (zD138_66  μ) := by
  intro l0 l1 l2 l3 l4 l6 l7 μ hT
  unfold zD138_66
  exact zK_ret0 rfl hT
theorem zD138_65_ok {μ0 : xe_Mem} {δ : xe_Dy} {d : Nat} (hd : 1 ≤ d)  : ∀ (s1 : Int32) (s2 : Int32) (s3 : Int64) (l0 : Option Value) (l1 : Option Value) (l2 : Option Value) (l3 : Option Value) (l4 : Option Value) (l6 : Option Value) (l7 : Option Value) (μ : xe_Mem), zT zPr μ0 μ → zK zPr μ0 δ d 138 65 [l0, l1, l2, l3, l4, none, l6, l7] [.long s3, .int s2, .int s1, .ref 203] μ (zD138_65  s1 s2 s3 μ) := by
  intro s1 s2 s3 l0 l1 l2 l3 l4 l6 l7 μ hT
  unfold zD138_65
  refine zK_cV rfl (as := [.ref 203, .int s1, .int s2, .long s3]) (rest := []) rfl rfl (xe_rcvO (zT_sh hT rfl)) (Nat.le_of_ble_eq_true rfl) (Nat.le_of_ble_eq_true rfl) (by decide) (fun _ => rfl) (by omega) (zD135_ok (by omega) s1 s2 s3 μ hT) (fun m1 T2 => ?_)
  exact zD138_66_ok hd _ _ _ _ _ _ _ m1 T2
theorem zD138_58_ok {μ0 : xe_Mem} {δ : xe_Dy} {d : Nat} (hd : 1 ≤ d)  : ∀ (v1 : Int32) (v4 : Int64) (v6 : Int32) (s1 : Int32) (l0 : Option Value) (l2 : Option Value) (l3 : Option Value) (l7 : Option Value) (μ : xe_Mem), zT zPr μ0 μ → zK zPr μ0 δ d 138 58 [l0, some (.int v1), l2, l3, some (.long v4), none, some (.int v6), l7] [.int s1, .ref 203] μ (zD138_58  v1 v4 v6 s1 μ) := by
  intro v1 v4 v6 s1 l0 l2 l3 l7 μ hT
  unfold zD138_58
  refine zK_op rfl rfl ?_
  refine zK_op rfl rfl ?_
  refine zK_iflt rfl (fun _ => ?_) (fun _ => ?_)
  · refine zK_op rfl rfl ?_
    exact zD138_65_ok hd s1 v1 v4 _ _ _ _ _ _ _ μ hT
  refine zK_op rfl rfl ?_
  refine zK_op rfl rfl ?_
  refine zK_op rfl rfl ?_
  exact zD138_65_ok hd s1 v1 v6.toInt64 _ _ _ _ _ _ _ μ hT
theorem zD138_46_ok {μ0 : xe_Mem} {δ : xe_Dy} {d : Nat} (hd : 1 ≤ d)  : ∀ (v1 : Int32) (l2 : Option Value) (l3 : Option Value) (l4 : Option Value) (l6 : Option Value) (l7 : Option Value) (μ : xe_Mem), zT zPr μ0 μ → zK zPr μ0 δ d 138 46 [some (.ref 203), some (.int v1), l2, l3, l4, none, l6, l7] [] μ (zD138_46  v1 μ) := by
  intro v1 l2 l3 l4 l6 l7 μ hT
  unfold zD138_46
  refine zK_op rfl rfl ?_
  refine zK_op rfl rfl ?_
  refine zK_op rfl rfl ?_
  refine zK_op rfl rfl ?_
  refine zK_cV rfl (as := [.ref 203, .int 5, .int v1, .long 0]) (rest := []) rfl rfl (xe_rcvO (zT_sh hT rfl)) (Nat.le_of_ble_eq_true rfl) (Nat.le_of_ble_eq_true rfl) (by decide) (fun _ => rfl) (by omega) (zD135_ok (by omega) 5 v1 0 μ hT) (fun m3 T4 => ?_)
  refine zK_op rfl rfl ?_
  exact zD138_66_ok hd _ _ _ _ _ _ _ m3 T4
theorem zD138_36_ok {μ0 : xe_Mem} {δ : xe_Dy} {d : Nat} (hd : 1 ≤ d) {c23 : Int32 → Int32 → Int32 → Int64 → Int32 → Int32 → xe_Mem → zO} (hc23 : ∀ (v1 : Int32) (v2 : Int32) (v3 : Int32) (v4 : Int64) (v6 : Int32) (v7 : Int32) (μ : xe_Mem), zT zPr μ0 μ → zK zPr μ0 δ d 138 23 [some (.ref 203), some (.int v1), some (.int v2), some (.int v3), some (.long v4), none, some (.int v6), some (.int v7)] [] μ (c23 v1 v2 v3 v4 v6 v7 μ)) : ∀ (v1 : Int32) (v2 : Int32) (v3 : Int32) (v4 : Int64) (v7 : Int32) (s0 : Int32) (l6 : Option Value) (μ : xe_Mem), zT zPr μ0 μ → zK zPr μ0 δ d 138 36 [some (.ref 203), some (.int v1), some (.int v2), some (.int v3), some (.long v4), none, l6, some (.int v7)] [.int s0] μ (zD138_36  c23 v1 v2 v3 v4 v7 s0 μ) := by
  intro v1 v2 v3 v4 v7 s0 l6 μ hT
  unfold zD138_36
  refine zK_op rfl rfl ?_
  refine zK_op rfl rfl ?_
  refine zK_op rfl rfl ?_
  exact hc23 v1 v2 v3 v4 s0 (v7 + (1)) μ hT
theorem zD138_23_bok {μ0 : xe_Mem} {δ : xe_Dy} {d : Nat} (hd : 1 ≤ d)  {c23 : Int32 → Int32 → Int32 → Int64 → Int32 → Int32 → xe_Mem → zO} (hc23 : ∀ (v1 : Int32) (v2 : Int32) (v3 : Int32) (v4 : Int64) (v6 : Int32) (v7 : Int32) (μ : xe_Mem), zT zPr μ0 μ → zK zPr μ0 δ d 138 23 [some (.ref 203), some (.int v1), some (.int v2), some (.int v3), some (.long v4), none, some (.int v6), some (.int v7)] [] μ (c23 v1 v2 v3 v4 v6 v7 μ)) : ∀ (v1 : Int32) (v2 : Int32) (v3 : Int32) (v4 : Int64) (v6 : Int32) (v7 : Int32) (μ : xe_Mem), zT zPr μ0 μ → zK zPr μ0 δ d 138 23 [some (.ref 203), some (.int v1), some (.int v2), some (.int v3), some (.long v4), none, some (.int v6), some (.int v7)] [] μ (zD138_23_b  c23 v1 v2 v3 v4 v6 v7 μ) := by
  intro v1 v2 v3 v4 v6 v7 μ hT
  unfold zD138_23_b
  refine zK_op rfl rfl ?_
  refine zK_op rfl rfl ?_
  refine zK_icge rfl (fun _ => ?_) (fun _ => ?_)
  · refine zK_op rfl rfl ?_
    refine zK_ifne rfl (fun _ => ?_) (fun _ => ?_)
    · refine zK_op rfl rfl ?_
      refine zK_op rfl rfl ?_
      refine zK_op rfl rfl ?_
      refine zK_op rfl rfl ?_
      refine zK_icle rfl (fun _ => ?_) (fun _ => ?_)
      · refine zK_op rfl rfl ?_
        refine zK_op rfl rfl ?_
        refine zK_iflt rfl (fun _ => ?_) (fun _ => ?_)
        · refine zK_op rfl rfl ?_
          exact zD138_58_ok hd v1 v4 v6 1 _ _ _ _ μ hT
        refine zK_op rfl rfl ?_
        refine zK_op rfl rfl ?_
        exact zD138_58_ok hd v1 v4 v6 4 _ _ _ _ μ hT
      exact zD138_46_ok hd v1 _ _ _ _ _ μ hT
    exact zD138_46_ok hd v1 _ _ _ _ _ μ hT
  refine zK_op rfl rfl ?_
  refine zK_gRl (b := 206) rfl rfl rfl hT ?_
  refine zK_op rfl rfl ?_
  refine zK_x (fun j5 h6 h7 h8 => ?_)
  refine zK_aL rfl rfl hT h6 h7 h8 ?_
  refine zK_op rfl rfl ?_
  refine zK_op rfl rfl ?_
  refine zK_ifne rfl (fun _ => ?_) (fun _ => ?_)
  · refine zK_op rfl rfl ?_
    refine zK_op rfl rfl ?_
    exact zD138_36_ok hd hc23 v1 v2 v3 v4 v7 v7 _ μ hT
  refine zK_op rfl rfl ?_
  exact zD138_36_ok hd hc23 v1 v2 v3 v4 v7 v6 _ μ hT
theorem zD138_23_ok {μ0 : xe_Mem} {δ : xe_Dy} {d : Nat} (hd : 1 ≤ d)  : ∀ n : Nat, ∀ (v1 : Int32) (v2 : Int32) (v3 : Int32) (v4 : Int64) (v6 : Int32) (v7 : Int32) (μ : xe_Mem), zT zPr μ0 μ → zK zPr μ0 δ d 138 23 [some (.ref 203), some (.int v1), some (.int v2), some (.int v3), some (.long v4), none, some (.int v6), some (.int v7)] [] μ (zD138_23  n v1 v2 v3 v4 v6 v7 μ) := by
  intro n
  induction n with
  | zero => exact fun _ _ _ _ _ _ _ _  => fun o μ' h => by cases h
  | succ n ih => exact zD138_23_bok hd   ih
theorem zD138_4_bok {μ0 : xe_Mem} {δ : xe_Dy} {d : Nat} (hd : 1 ≤ d)  {c4 : Int32 → Int32 → Int32 → Int64 → Int32 → xe_Mem → zO} (hc4 : ∀ (v1 : Int32) (v2 : Int32) (v3 : Int32) (v4 : Int64) (v6 : Int32) (μ : xe_Mem), zT zPr μ0 μ → zK zPr μ0 δ d 138 4 [some (.ref 203), some (.int v1), some (.int v2), some (.int v3), some (.long v4), none, some (.int v6), none] [] μ (c4 v1 v2 v3 v4 v6 μ)) : ∀ (v1 : Int32) (v2 : Int32) (v3 : Int32) (v4 : Int64) (v6 : Int32) (μ : xe_Mem), zT zPr μ0 μ → zK zPr μ0 δ d 138 4 [some (.ref 203), some (.int v1), some (.int v2), some (.int v3), some (.long v4), none, some (.int v6), none] [] μ (zD138_4_b  c4 v1 v2 v3 v4 v6 μ) := by
  intro v1 v2 v3 v4 v6 μ hT
  unfold zD138_4_b
  refine zK_op rfl rfl ?_
  refine zK_op rfl rfl ?_
  refine zK_icge rfl (fun _ => ?_) (fun _ => ?_)
  · refine zK_op rfl rfl ?_
    refine zK_op rfl rfl ?_
    refine zK_op rfl rfl ?_
    refine zK_op rfl rfl ?_
    exact zD138_23_ok hd zfu v1 v2 v3 v4 ((-1)) 0 μ hT
  refine zK_op rfl rfl ?_
  refine zK_op rfl rfl ?_
  refine zK_op rfl rfl ?_
  refine zK_op rfl rfl ?_
  refine zK_gRl (b := 205) rfl rfl rfl hT ?_
  refine zK_op rfl rfl ?_
  refine zK_x (fun j9 h10 h11 h12 => ?_)
  refine zK_aI rfl rfl hT h10 h11 h12 ?_
  refine zK_op rfl rfl ?_
  refine zK_op rfl rfl ?_
  refine zK_vL (fun x13 => ?_)
  refine zK_op rfl rfl ?_
  refine zK_op rfl rfl ?_
  refine zK_op rfl rfl ?_
  exact hc4 v1 v2 v3 x13 (v6 + (1)) μ hT
theorem zD138_4_ok {μ0 : xe_Mem} {δ : xe_Dy} {d : Nat} (hd : 1 ≤ d)  : ∀ n : Nat, ∀ (v1 : Int32) (v2 : Int32) (v3 : Int32) (v4 : Int64) (v6 : Int32) (μ : xe_Mem), zT zPr μ0 μ → zK zPr μ0 δ d 138 4 [some (.ref 203), some (.int v1), some (.int v2), some (.int v3), some (.long v4), none, some (.int v6), none] [] μ (zD138_4  n v1 v2 v3 v4 v6 μ) := by
  intro n
  induction n with
  | zero => exact fun _ _ _ _ _ _ _  => fun o μ' h => by cases h
  | succ n ih => exact zD138_4_bok hd   ih
theorem zD138_ok {μ0 : xe_Mem} {δ : xe_Dy} {d : Nat} (hd : 1 ≤ d) (a1 : Int32) (a2 : Int32) (a3 : Int32) (μ : xe_Mem) (hT : zT zPr μ0 μ) : zK zPr μ0 δ d 138 0 (xe_init [.ref 203, .int a1, .int a2, .int a3] (xM_L 138)) [] μ (zD138 a1 a2 a3 μ) := by
  unfold zD138
  show zK zPr μ0 δ d 138 0 [some (.ref 203), some (.int a1), some (.int a2), some (.int a3), none, none, none, none] [] μ _
  refine zK_op rfl rfl ?_
  refine zK_op rfl rfl ?_
  refine zK_op rfl rfl ?_
  refine zK_op rfl rfl ?_
  exact zD138_4_ok hd zfu a1 a2 a3 0 a1 μ hT
/-! 139 LogicalTimesModel.isSign(I)Z -/
def zD139_45 (s0 : Int32) (μ : xe_Mem) : zO := zq_z s0 <| some (.inl (some (.int s0)), μ)
def zD139_42 (μ : xe_Mem) : zO := zD139_45 1 μ
def zD139  (a0 : Int32) (μ : xe_Mem) : zO := if a0 = 123 then zD139_42 μ else if a0 = 125 then zD139_42 μ else if a0 = 59 then zD139_42 μ else if a0 = 44 then zD139_42 μ else if a0 = 61 then zD139_42 μ else if a0 = 43 then zD139_42 μ else if a0 = 45 then zD139_42 μ else if a0 = 42 then zD139_42 μ else if a0 = 47 then zD139_42 μ else if a0 = 37 then zD139_42 μ else if a0 = 60 then zD139_42 μ else if a0 = 62 then zD139_42 μ else if a0 = 40 then zD139_42 μ else if a0 = 41 then zD139_42 μ else zD139_45 0 μ
theorem zD139_45_ok {μ0 : xe_Mem} {δ : xe_Dy} {d : Nat} (hd : 0 ≤ d)  : ∀ (s0 : Int32) (l0 : Option Value) (μ : xe_Mem), zT zPr μ0 μ → zK zPr μ0 δ d 139 45 [l0] [.int s0] μ (zD139_45  s0 μ) := by
  intro s0 l0 μ hT
  unfold zD139_45
  exact zK_ret3z rfl hT
theorem zD139_42_ok {μ0 : xe_Mem} {δ : xe_Dy} {d : Nat} (hd : 0 ≤ d)  : ∀ (l0 : Option Value) (μ : xe_Mem), zT zPr μ0 μ → zK zPr μ0 δ d 139 42 [l0] [] μ (zD139_42  μ) := by
  intro l0 μ hT
  unfold zD139_42
  refine zK_op rfl rfl ?_
  refine zK_op rfl rfl ?_
  exact zD139_45_ok hd 1 _ μ hT
theorem zD139_ok {μ0 : xe_Mem} {δ : xe_Dy} {d : Nat} (hd : 0 ≤ d) (a0 : Int32) (μ : xe_Mem) (hT : zT zPr μ0 μ) : zK zPr μ0 δ d 139 0 (xe_init [.int a0] (xM_L 139)) [] μ (zD139 a0 μ) := by
  unfold zD139
  show zK zPr μ0 δ d 139 0 [some (.int a0)] [] μ _
  refine zK_op rfl rfl ?_
  refine zK_op rfl rfl ?_
  refine zK_iceq rfl (fun _ => ?_) (fun _ => ?_)
  · exact zD139_42_ok hd _ μ hT
  refine zK_op rfl rfl ?_
  refine zK_op rfl rfl ?_
  refine zK_iceq rfl (fun _ => ?_) (fun _ => ?_)
  · exact zD139_42_ok hd _ μ hT
  refine zK_op rfl rfl ?_
  refine zK_op rfl rfl ?_
  refine zK_iceq rfl (fun _ => ?_) (fun _ => ?_)
  · exact zD139_42_ok hd _ μ hT
  refine zK_op rfl rfl ?_
  refine zK_op rfl rfl ?_
  refine zK_iceq rfl (fun _ => ?_) (fun _ => ?_)
  · exact zD139_42_ok hd _ μ hT
  refine zK_op rfl rfl ?_
  refine zK_op rfl rfl ?_
  refine zK_iceq rfl (fun _ => ?_) (fun _ => ?_)
  · exact zD139_42_ok hd _ μ hT
  refine zK_op rfl rfl ?_
  refine zK_op rfl rfl ?_
  refine zK_iceq rfl (fun _ => ?_) (fun _ => ?_)
  · exact zD139_42_ok hd _ μ hT
  refine zK_op rfl rfl ?_
  refine zK_op rfl rfl ?_
  refine zK_iceq rfl (fun _ => ?_) (fun _ => ?_)
  · exact zD139_42_ok hd _ μ hT
  refine zK_op rfl rfl ?_
  refine zK_op rfl rfl ?_
  refine zK_iceq rfl (fun _ => ?_) (fun _ => ?_)
  · exact zD139_42_ok hd _ μ hT
  refine zK_op rfl rfl ?_
  refine zK_op rfl rfl ?_
  refine zK_iceq rfl (fun _ => ?_) (fun _ => ?_)
  · exact zD139_42_ok hd _ μ hT
  refine zK_op rfl rfl ?_
  refine zK_op rfl rfl ?_
  refine zK_iceq rfl (fun _ => ?_) (fun _ => ?_)
  · exact zD139_42_ok hd _ μ hT
  refine zK_op rfl rfl ?_
  refine zK_op rfl rfl ?_
  refine zK_iceq rfl (fun _ => ?_) (fun _ => ?_)
  · exact zD139_42_ok hd _ μ hT
  refine zK_op rfl rfl ?_
  refine zK_op rfl rfl ?_
  refine zK_iceq rfl (fun _ => ?_) (fun _ => ?_)
  · exact zD139_42_ok hd _ μ hT
  refine zK_op rfl rfl ?_
  refine zK_op rfl rfl ?_
  refine zK_iceq rfl (fun _ => ?_) (fun _ => ?_)
  · exact zD139_42_ok hd _ μ hT
  refine zK_op rfl rfl ?_
  refine zK_op rfl rfl ?_
  refine zK_icne rfl (fun _ => ?_) (fun _ => ?_)
  · exact zD139_42_ok hd _ μ hT
  refine zK_op rfl rfl ?_
  exact zD139_45_ok hd 0 _ μ hT
/-! 134 LogicalTimesModel.split()V -/
def zD134_184 (c7 : Int32 → Int32 → xe_Mem → zO) (v1 : Int32) (s0 : Int32) (μ : xe_Mem) : zO := c7 v1 s0 μ
def zD134_183 (c7 : Int32 → Int32 → xe_Mem → zO) (v1 : Int32) (μ : xe_Mem) : zO := zD134_184 c7 v1 0 μ
def zD134_170 (c7 : Int32 → Int32 → xe_Mem → zO) (v1 : Int32) (v2 : Int32) (μ : xe_Mem) : zO := if v2 = 0 then zD134_183 c7 v1 μ else zq_x ((xe_I μ 203 6) - 1) 3002 fun j14 => if (xe_I μ 207 j14) = 5 then zD134_183 c7 v1 μ else zD134_184 c7 v1 1 μ
def zD134_166 (c7 : Int32 → Int32 → xe_Mem → zO) (v1 : Int32) (v2 : Int32) (v4 : Int32) (v6 : Int32) (s1 : Int32) (μ : xe_Mem) : zO := zq_cV (zD135 s1 v6 v4.toInt64 μ) fun m12 => zD134_170 c7 v1 v2 m12
def zD134_154 (c7 : Int32 → Int32 → xe_Mem → zO) (v1 : Int32) (v2 : Int32) (v6 : Int32) (v7 : Int64) (s1 : Int32) (μ : xe_Mem) : zO := zq_cV (zD135 s1 v6 v7 μ) fun m18 => zD134_170 c7 v1 v2 m18
def zD134_145 (c7 : Int32 → Int32 → xe_Mem → zO) (v1 : Int32) (v2 : Int32) (v6 : Int32) (v7 : Int64) (μ : xe_Mem) : zO := if (v1 - v6) ≤ 6 then zD134_154 c7 v1 v2 v6 v7 2 μ else zD134_154 c7 v1 v2 v6 v7 5 μ
def zD134_142 (c115 : Int32 → Int32 → Int32 → Int64 → xe_Mem → zO) (v1 : Int32) (v2 : Int32) (v6 : Int32) (s0 : Int64) (μ : xe_Mem) : zO := c115 (v1 + (1)) v2 v6 s0 μ
def zD134_115_b (c7 : Int32 → Int32 → xe_Mem → zO) (c115 : Int32 → Int32 → Int32 → Int64 → xe_Mem → zO) (v1 : Int32) (v2 : Int32) (v6 : Int32) (v7 : Int64) (μ : xe_Mem) : zO := if (xe_I μ 203 3) ≤ v1 then zD134_145 c7 v1 v2 v6 v7 μ else zq_x v1 3000 fun j20 => zq_cI (zD137 (xe_I μ 205 j20) μ) fun x26 m24 => if x26 = 0 then zD134_145 c7 v1 v2 v6 v7 m24 else if (lg_cmp v7 999999) ≤ 0 then zq_x v1 3000 fun j27 => zD134_142 c115 v1 v2 v6 (((10 * v7) + ((xe_I m24 205 j27).toInt64)) - 48) m24 else zD134_142 c115 v1 v2 v6 v7 m24
def zD134_115  (c7 : Int32 → Int32 → xe_Mem → zO) : Nat → Int32 → Int32 → Int32 → Int64 → xe_Mem → zO
  | 0 => fun _ _ _ _ _  => none
  | n + 1 => zD134_115_b  c7 (zD134_115  c7 n)
def zD134_104 (c7 : Int32 → Int32 → xe_Mem → zO) (v1 : Int32) (v2 : Int32) (v5 : Int32) (v6 : Int32) (μ : xe_Mem) : zO := zq_cV (zD138 v6 v1 v5 μ) fun m31 => zD134_170 c7 v1 v2 m31
def zD134_102 (c86 : Int32 → Int32 → Int32 → Int32 → xe_Mem → zO) (v1 : Int32) (v2 : Int32) (v5 : Int32) (v6 : Int32) (μ : xe_Mem) : zO := c86 (v1 + (1)) v2 v5 v6 μ
def zD134_86_b (c7 : Int32 → Int32 → xe_Mem → zO) (c86 : Int32 → Int32 → Int32 → Int32 → xe_Mem → zO) (v1 : Int32) (v2 : Int32) (v5 : Int32) (v6 : Int32) (μ : xe_Mem) : zO := if (xe_I μ 203 3) ≤ v1 then zD134_104 c7 v1 v2 v5 v6 μ else zq_x v1 3000 fun j33 => zq_cI (zD136 (xe_I μ 205 j33) μ) fun x39 m37 => if x39 = 0 then zq_x v1 3000 fun j40 => zq_cI (zD137 (xe_I m37 205 j40) m37) fun x46 m44 => if x46 = 0 then zD134_104 c7 v1 v2 v5 v6 m44 else zD134_102 c86 v1 v2 v5 v6 m44 else zD134_102 c86 v1 v2 v5 v6 m37
def zD134_86  (c7 : Int32 → Int32 → xe_Mem → zO) : Nat → Int32 → Int32 → Int32 → Int32 → xe_Mem → zO
  | 0 => fun _ _ _ _ _  => none
  | n + 1 => zD134_86_b  c7 (zD134_86  c7 n)
def zD134_70 (c7 : Int32 → Int32 → xe_Mem → zO) (v1 : Int32) (v2 : Int32) (v4 : Int32) (s0 : Int32) (μ : xe_Mem) : zO := if 0 ≤ v4 then zq_cI (zD136 v4 μ) fun x5 m3 => if x5 = 0 then zq_cI (zD137 v4 m3) fun x8 m6 => if x8 = 0 then zq_cI (zD139 v4 m6) fun x11 m9 => if x11 = 0 then zD134_166 c7 (v1 + (1)) v2 v4 v1 5 m9 else zD134_166 c7 (v1 + (1)) v2 v4 v1 3 m9 else zD134_115 c7 zfu v1 v2 v1 0 m6 else zD134_86 c7 zfu v1 v2 s0 v1 m3 else zq_cV (zD135 0 v1 0 μ) fun m47 => zD134_170 c7 v1 0 m47
def zD134_69 (c7 : Int32 → Int32 → xe_Mem → zO) (v1 : Int32) (v2 : Int32) (v4 : Int32) (μ : xe_Mem) : zO := zD134_70 c7 v1 v2 v4 0 μ
def zD134_51 (c7 : Int32 → Int32 → xe_Mem → zO) (v1 : Int32) (v2 : Int32) (v3 : Int32) (s0 : Int32) (μ : xe_Mem) : zO := if v1 = v3 then if (xe_I μ 203 6) ≤ 0 then zD134_69 c7 v1 v2 s0 μ else zq_x ((xe_I μ 203 6) - 1) 3002 fun j49 => if (xe_I μ 207 j49) = 2 then zD134_70 c7 v1 v2 s0 1 μ else zD134_69 c7 v1 v2 s0 μ else zD134_69 c7 v1 v2 s0 μ
def zD134_41 (c7 : Int32 → Int32 → xe_Mem → zO) (v1 : Int32) (v2 : Int32) (v3 : Int32) (μ : xe_Mem) : zO := if (xe_I μ 203 3) ≤ v1 then zD134_51 c7 v1 v2 v3 ((-1)) μ else zq_x v1 3000 fun j53 => zD134_51 c7 v1 v2 v3 (xe_I μ 205 j53) μ
def zD134_39 (c11 : Int32 → Int32 → Int32 → xe_Mem → zO) (v1 : Int32) (v2 : Int32) (v3 : Int32) (μ : xe_Mem) : zO := c11 (v1 + (1)) v2 v3 μ
def zD134_11_b (c7 : Int32 → Int32 → xe_Mem → zO) (c11 : Int32 → Int32 → Int32 → xe_Mem → zO) (v1 : Int32) (v2 : Int32) (v3 : Int32) (μ : xe_Mem) : zO := if (xe_I μ 203 3) ≤ v1 then zD134_41 c7 v1 v2 v3 μ else zq_x v1 3000 fun j57 => if (xe_I μ 205 j57) = 32 then zD134_39 c11 v1 v2 v3 μ else zq_x v1 3000 fun j61 => if (xe_I μ 205 j61) = 9 then zD134_39 c11 v1 v2 v3 μ else zq_x v1 3000 fun j65 => if (xe_I μ 205 j65) = 10 then zD134_39 c11 v1 v2 v3 μ else zq_x v1 3000 fun j69 => if (xe_I μ 205 j69) = 13 then zD134_39 c11 v1 v2 v3 μ else zD134_41 c7 v1 v2 v3 μ
def zD134_11  (c7 : Int32 → Int32 → xe_Mem → zO) : Nat → Int32 → Int32 → Int32 → xe_Mem → zO
  | 0 => fun _ _ _ _  => none
  | n + 1 => zD134_11_b  c7 (zD134_11  c7 n)
def zD134_7_b (c7 : Int32 → Int32 → xe_Mem → zO) (v1 : Int32) (v2 : Int32) (μ : xe_Mem) : zO := if v2 = 0 then some (.inl none, μ) else zD134_11 c7 zfu v1 v2 v1 μ
def zD134_7   : Nat → Int32 → Int32 → xe_Mem → zO
  | 0 => fun _ _ _  => none
  | n + 1 => zD134_7_b   (zD134_7   n)
def zD134   (μ : xe_Mem) : zO := zq_m (xe_setI μ 203 6 0) fun m1 => zD134_7 zfu 0 1 m1
theorem zD134_184_ok {μ0 : xe_Mem} {δ : xe_Dy} {d : Nat} (hd : 2 ≤ d) {c7 : Int32 → Int32 → xe_Mem → zO} (hc7 : ∀ (v1 : Int32) (v2 : Int32) (l3 : Option Value) (l4 : Option Value) (l5 : Option Value) (l6 : Option Value) (l7 : Option Value) (μ : xe_Mem), zT zPr μ0 μ → zK zPr μ0 δ d 134 7 [some (.ref 203), some (.int v1), some (.int v2), l3, l4, l5, l6, l7, none] [] μ (c7 v1 v2 μ)) : ∀ (v1 : Int32) (s0 : Int32) (l2 : Option Value) (l3 : Option Value) (l4 : Option Value) (l5 : Option Value) (l6 : Option Value) (l7 : Option Value) (μ : xe_Mem), zT zPr μ0 μ → zK zPr μ0 δ d 134 184 [some (.ref 203), some (.int v1), l2, l3, l4, l5, l6, l7, none] [.int s0] μ (zD134_184  c7 v1 s0 μ) := by
  intro v1 s0 l2 l3 l4 l5 l6 l7 μ hT
  unfold zD134_184
  refine zK_op rfl rfl ?_
  refine zK_op rfl rfl ?_
  exact hc7 v1 s0 _ _ _ _ _ μ hT
theorem zD134_183_ok {μ0 : xe_Mem} {δ : xe_Dy} {d : Nat} (hd : 2 ≤ d) {c7 : Int32 → Int32 → xe_Mem → zO} (hc7 : ∀ (v1 : Int32) (v2 : Int32) (l3 : Option Value) (l4 : Option Value) (l5 : Option Value) (l6 : Option Value) (l7 : Option Value) (μ : xe_Mem), zT zPr μ0 μ → zK zPr μ0 δ d 134 7 [some (.ref 203), some (.int v1), some (.int v2), l3, l4, l5, l6, l7, none] [] μ (c7 v1 v2 μ)) : ∀ (v1 : Int32) (l2 : Option Value) (l3 : Option Value) (l4 : Option Value) (l5 : Option Value) (l6 : Option Value) (l7 : Option Value) (μ : xe_Mem), zT zPr μ0 μ → zK zPr μ0 δ d 134 183 [some (.ref 203), some (.int v1), l2, l3, l4, l5, l6, l7, none] [] μ (zD134_183  c7 v1 μ) := by
  intro v1 l2 l3 l4 l5 l6 l7 μ hT
  unfold zD134_183
  refine zK_op rfl rfl ?_
  exact zD134_184_ok hd hc7 v1 0 _ _ _ _ _ _ μ hT
theorem zD134_170_ok {μ0 : xe_Mem} {δ : xe_Dy} {d : Nat} (hd : 2 ≤ d) {c7 : Int32 → Int32 → xe_Mem → zO} (hc7 : ∀ (v1 : Int32) (v2 : Int32) (l3 : Option Value) (l4 : Option Value) (l5 : Option Value) (l6 : Option Value) (l7 : Option Value) (μ : xe_Mem), zT zPr μ0 μ → zK zPr μ0 δ d 134 7 [some (.ref 203), some (.int v1), some (.int v2), l3, l4, l5, l6, l7, none] [] μ (c7 v1 v2 μ)) : ∀ (v1 : Int32) (v2 : Int32) (l3 : Option Value) (l4 : Option Value) (l5 : Option Value) (l6 : Option Value) (l7 : Option Value) (μ : xe_Mem), zT zPr μ0 μ → zK zPr μ0 δ d 134 170 [some (.ref 203), some (.int v1), some (.int v2), l3, l4, l5, l6, l7, none] [] μ (zD134_170  c7 v1 v2 μ) := by
  intro v1 v2 l3 l4 l5 l6 l7 μ hT
  unfold zD134_170
  refine zK_op rfl rfl ?_
  refine zK_ifeq rfl (fun _ => ?_) (fun _ => ?_)
  · exact zD134_183_ok hd hc7 v1 _ _ _ _ _ _ μ hT
  refine zK_op rfl rfl ?_
  refine zK_gRl (b := 207) rfl rfl rfl hT ?_
  refine zK_op rfl rfl ?_
  refine zK_gI rfl rfl hT ?_
  refine zK_op rfl rfl ?_
  refine zK_op rfl rfl ?_
  refine zK_x (fun j14 h15 h16 h17 => ?_)
  refine zK_aI rfl rfl hT h15 h16 h17 ?_
  refine zK_op rfl rfl ?_
  refine zK_iceq rfl (fun _ => ?_) (fun _ => ?_)
  · exact zD134_183_ok hd hc7 v1 _ _ _ _ _ _ μ hT
  refine zK_op rfl rfl ?_
  refine zK_op rfl rfl ?_
  exact zD134_184_ok hd hc7 v1 1 _ _ _ _ _ _ μ hT
theorem zD134_166_ok {μ0 : xe_Mem} {δ : xe_Dy} {d : Nat} (hd : 2 ≤ d) {c7 : Int32 → Int32 → xe_Mem → zO} (hc7 : ∀ (v1 : Int32) (v2 : Int32) (l3 : Option Value) (l4 : Option Value) (l5 : Option Value) (l6 : Option Value) (l7 : Option Value) (μ : xe_Mem), zT zPr μ0 μ → zK zPr μ0 δ d 134 7 [some (.ref 203), some (.int v1), some (.int v2), l3, l4, l5, l6, l7, none] [] μ (c7 v1 v2 μ)) : ∀ (v1 : Int32) (v2 : Int32) (v4 : Int32) (v6 : Int32) (s1 : Int32) (l3 : Option Value) (l5 : Option Value) (l7 : Option Value) (μ : xe_Mem), zT zPr μ0 μ → zK zPr μ0 δ d 134 166 [some (.ref 203), some (.int v1), some (.int v2), l3, some (.int v4), l5, some (.int v6), l7, none] [.int s1, .ref 203] μ (zD134_166  c7 v1 v2 v4 v6 s1 μ) := by
  intro v1 v2 v4 v6 s1 l3 l5 l7 μ hT
  unfold zD134_166
  refine zK_op rfl rfl ?_
  refine zK_op rfl rfl ?_
  refine zK_op rfl rfl ?_
  refine zK_cV rfl (as := [.ref 203, .int s1, .int v6, .long v4.toInt64]) (rest := []) rfl rfl (xe_rcvO (zT_sh hT rfl)) (Nat.le_of_ble_eq_true rfl) (Nat.le_of_ble_eq_true rfl) (by decide) (fun _ => rfl) (by omega) (zD135_ok (by omega) s1 v6 v4.toInt64 μ hT) (fun m12 T13 => ?_)
  exact zD134_170_ok hd hc7 v1 v2 _ _ _ _ _ m12 T13
theorem zD134_154_ok {μ0 : xe_Mem} {δ : xe_Dy} {d : Nat} (hd : 2 ≤ d) {c7 : Int32 → Int32 → xe_Mem → zO} (hc7 : ∀ (v1 : Int32) (v2 : Int32) (l3 : Option Value) (l4 : Option Value) (l5 : Option Value) (l6 : Option Value) (l7 : Option Value) (μ : xe_Mem), zT zPr μ0 μ → zK zPr μ0 δ d 134 7 [some (.ref 203), some (.int v1), some (.int v2), l3, l4, l5, l6, l7, none] [] μ (c7 v1 v2 μ)) : ∀ (v1 : Int32) (v2 : Int32) (v6 : Int32) (v7 : Int64) (s1 : Int32) (l3 : Option Value) (l4 : Option Value) (l5 : Option Value) (μ : xe_Mem), zT zPr μ0 μ → zK zPr μ0 δ d 134 154 [some (.ref 203), some (.int v1), some (.int v2), l3, l4, l5, some (.int v6), some (.long v7), none] [.int s1, .ref 203] μ (zD134_154  c7 v1 v2 v6 v7 s1 μ) := by
  intro v1 v2 v6 v7 s1 l3 l4 l5 μ hT
  unfold zD134_154
  refine zK_op rfl rfl ?_
  refine zK_op rfl rfl ?_
  refine zK_cV rfl (as := [.ref 203, .int s1, .int v6, .long v7]) (rest := []) rfl rfl (xe_rcvO (zT_sh hT rfl)) (Nat.le_of_ble_eq_true rfl) (Nat.le_of_ble_eq_true rfl) (by decide) (fun _ => rfl) (by omega) (zD135_ok (by omega) s1 v6 v7 μ hT) (fun m18 T19 => ?_)
  refine zK_op rfl rfl ?_
  exact zD134_170_ok hd hc7 v1 v2 _ _ _ _ _ m18 T19
theorem zD134_145_ok {μ0 : xe_Mem} {δ : xe_Dy} {d : Nat} (hd : 2 ≤ d) {c7 : Int32 → Int32 → xe_Mem → zO} (hc7 : ∀ (v1 : Int32) (v2 : Int32) (l3 : Option Value) (l4 : Option Value) (l5 : Option Value) (l6 : Option Value) (l7 : Option Value) (μ : xe_Mem), zT zPr μ0 μ → zK zPr μ0 δ d 134 7 [some (.ref 203), some (.int v1), some (.int v2), l3, l4, l5, l6, l7, none] [] μ (c7 v1 v2 μ)) : ∀ (v1 : Int32) (v2 : Int32) (v6 : Int32) (v7 : Int64) (l3 : Option Value) (l4 : Option Value) (l5 : Option Value) (μ : xe_Mem), zT zPr μ0 μ → zK zPr μ0 δ d 134 145 [some (.ref 203), some (.int v1), some (.int v2), l3, l4, l5, some (.int v6), some (.long v7), none] [] μ (zD134_145  c7 v1 v2 v6 v7 μ) := by
  intro v1 v2 v6 v7 l3 l4 l5 μ hT
  unfold zD134_145
  refine zK_op rfl rfl ?_
  refine zK_op rfl rfl ?_
  refine zK_op rfl rfl ?_
  refine zK_op rfl rfl ?_
  refine zK_op rfl rfl ?_
  refine zK_icle rfl (fun _ => ?_) (fun _ => ?_)
  · refine zK_op rfl rfl ?_
    exact zD134_154_ok hd hc7 v1 v2 v6 v7 2 _ _ _ μ hT
  refine zK_op rfl rfl ?_
  refine zK_op rfl rfl ?_
  exact zD134_154_ok hd hc7 v1 v2 v6 v7 5 _ _ _ μ hT
theorem zD134_142_ok {μ0 : xe_Mem} {δ : xe_Dy} {d : Nat} (hd : 2 ≤ d) {c115 : Int32 → Int32 → Int32 → Int64 → xe_Mem → zO} (hc115 : ∀ (v1 : Int32) (v2 : Int32) (v6 : Int32) (v7 : Int64) (l3 : Option Value) (l4 : Option Value) (l5 : Option Value) (μ : xe_Mem), zT zPr μ0 μ → zK zPr μ0 δ d 134 115 [some (.ref 203), some (.int v1), some (.int v2), l3, l4, l5, some (.int v6), some (.long v7), none] [] μ (c115 v1 v2 v6 v7 μ)) : ∀ (v1 : Int32) (v2 : Int32) (v6 : Int32) (s0 : Int64) (l3 : Option Value) (l4 : Option Value) (l5 : Option Value) (l7 : Option Value) (μ : xe_Mem), zT zPr μ0 μ → zK zPr μ0 δ d 134 142 [some (.ref 203), some (.int v1), some (.int v2), l3, l4, l5, some (.int v6), l7, none] [.long s0] μ (zD134_142  c115 v1 v2 v6 s0 μ) := by
  intro v1 v2 v6 s0 l3 l4 l5 l7 μ hT
  unfold zD134_142
  refine zK_op rfl rfl ?_
  refine zK_op rfl rfl ?_
  refine zK_op rfl rfl ?_
  exact hc115 (v1 + (1)) v2 v6 s0 _ _ _ μ hT
theorem zD134_115_bok {μ0 : xe_Mem} {δ : xe_Dy} {d : Nat} (hd : 2 ≤ d) {c7 : Int32 → Int32 → xe_Mem → zO} (hc7 : ∀ (v1 : Int32) (v2 : Int32) (l3 : Option Value) (l4 : Option Value) (l5 : Option Value) (l6 : Option Value) (l7 : Option Value) (μ : xe_Mem), zT zPr μ0 μ → zK zPr μ0 δ d 134 7 [some (.ref 203), some (.int v1), some (.int v2), l3, l4, l5, l6, l7, none] [] μ (c7 v1 v2 μ)) {c115 : Int32 → Int32 → Int32 → Int64 → xe_Mem → zO} (hc115 : ∀ (v1 : Int32) (v2 : Int32) (v6 : Int32) (v7 : Int64) (l3 : Option Value) (l4 : Option Value) (l5 : Option Value) (μ : xe_Mem), zT zPr μ0 μ → zK zPr μ0 δ d 134 115 [some (.ref 203), some (.int v1), some (.int v2), l3, l4, l5, some (.int v6), some (.long v7), none] [] μ (c115 v1 v2 v6 v7 μ)) : ∀ (v1 : Int32) (v2 : Int32) (v6 : Int32) (v7 : Int64) (l3 : Option Value) (l4 : Option Value) (l5 : Option Value) (μ : xe_Mem), zT zPr μ0 μ → zK zPr μ0 δ d 134 115 [some (.ref 203), some (.int v1), some (.int v2), l3, l4, l5, some (.int v6), some (.long v7), none] [] μ (zD134_115_b  c7 c115 v1 v2 v6 v7 μ) := by
  intro v1 v2 v6 v7 l3 l4 l5 μ hT
  unfold zD134_115_b
  refine zK_op rfl rfl ?_
  refine zK_op rfl rfl ?_
  refine zK_gI rfl rfl hT ?_
  refine zK_icge rfl (fun _ => ?_) (fun _ => ?_)
  · exact zD134_145_ok hd hc7 v1 v2 v6 v7 _ _ _ μ hT
  refine zK_op rfl rfl ?_
  refine zK_gRl (b := 205) rfl rfl rfl hT ?_
  refine zK_op rfl rfl ?_
  refine zK_x (fun j20 h21 h22 h23 => ?_)
  refine zK_aI rfl rfl hT h21 h22 h23 ?_
  refine zK_cI rfl (as := [.int (xe_I μ 205 j20)]) (rest := []) rfl rfl rfl (Nat.le_of_ble_eq_true rfl) (Nat.le_of_ble_eq_true rfl) (by decide) (fun _ => rfl) (by omega) (zD137_ok (by omega) (xe_I μ 205 j20) μ hT) (fun x26 m24 T25 => ?_)
  refine zK_ifeq rfl (fun _ => ?_) (fun _ => ?_)
  · exact zD134_145_ok hd hc7 v1 v2 v6 v7 _ _ _ m24 T25
  refine zK_op rfl rfl ?_
  refine zK_op rfl rfl ?_
  refine zK_op rfl rfl ?_
  refine zK_ifle rfl (fun _ => ?_) (fun _ => ?_)
  · refine zK_op rfl rfl ?_
    refine zK_op rfl rfl ?_
    refine zK_op rfl rfl ?_
    refine zK_op rfl rfl ?_
    refine zK_gRl (b := 205) rfl rfl rfl T25 ?_
    refine zK_op rfl rfl ?_
    refine zK_x (fun j27 h28 h29 h30 => ?_)
    refine zK_aI rfl rfl T25 h28 h29 h30 ?_
    refine zK_op rfl rfl ?_
    refine zK_op rfl rfl ?_
    refine zK_op rfl rfl ?_
    refine zK_op rfl rfl ?_
    exact zD134_142_ok hd hc115 v1 v2 v6 (((10 * v7) + ((xe_I m24 205 j27).toInt64)) - 48) _ _ _ _ m24 T25
  refine zK_op rfl rfl ?_
  refine zK_op rfl rfl ?_
  exact zD134_142_ok hd hc115 v1 v2 v6 v7 _ _ _ _ m24 T25
theorem zD134_115_ok {μ0 : xe_Mem} {δ : xe_Dy} {d : Nat} (hd : 2 ≤ d) {c7 : Int32 → Int32 → xe_Mem → zO} (hc7 : ∀ (v1 : Int32) (v2 : Int32) (l3 : Option Value) (l4 : Option Value) (l5 : Option Value) (l6 : Option Value) (l7 : Option Value) (μ : xe_Mem), zT zPr μ0 μ → zK zPr μ0 δ d 134 7 [some (.ref 203), some (.int v1), some (.int v2), l3, l4, l5, l6, l7, none] [] μ (c7 v1 v2 μ)) : ∀ n : Nat, ∀ (v1 : Int32) (v2 : Int32) (v6 : Int32) (v7 : Int64) (l3 : Option Value) (l4 : Option Value) (l5 : Option Value) (μ : xe_Mem), zT zPr μ0 μ → zK zPr μ0 δ d 134 115 [some (.ref 203), some (.int v1), some (.int v2), l3, l4, l5, some (.int v6), some (.long v7), none] [] μ (zD134_115  c7 n v1 v2 v6 v7 μ) := by
  intro n
  induction n with
  | zero => exact fun _ _ _ _ _ _ _ _ _  => fun o μ' h => by cases h
  | succ n ih => exact zD134_115_bok hd  hc7 ih
theorem zD134_104_ok {μ0 : xe_Mem} {δ : xe_Dy} {d : Nat} (hd : 2 ≤ d) {c7 : Int32 → Int32 → xe_Mem → zO} (hc7 : ∀ (v1 : Int32) (v2 : Int32) (l3 : Option Value) (l4 : Option Value) (l5 : Option Value) (l6 : Option Value) (l7 : Option Value) (μ : xe_Mem), zT zPr μ0 μ → zK zPr μ0 δ d 134 7 [some (.ref 203), some (.int v1), some (.int v2), l3, l4, l5, l6, l7, none] [] μ (c7 v1 v2 μ)) : ∀ (v1 : Int32) (v2 : Int32) (v5 : Int32) (v6 : Int32) (l3 : Option Value) (l4 : Option Value) (l7 : Option Value) (μ : xe_Mem), zT zPr μ0 μ → zK zPr μ0 δ d 134 104 [some (.ref 203), some (.int v1), some (.int v2), l3, l4, some (.int v5), some (.int v6), l7, none] [] μ (zD134_104  c7 v1 v2 v5 v6 μ) := by
  intro v1 v2 v5 v6 l3 l4 l7 μ hT
  unfold zD134_104
  refine zK_op rfl rfl ?_
  refine zK_op rfl rfl ?_
  refine zK_op rfl rfl ?_
  refine zK_op rfl rfl ?_
  refine zK_cV rfl (as := [.ref 203, .int v6, .int v1, .int v5]) (rest := []) rfl rfl (xe_rcvO (zT_sh hT rfl)) (Nat.le_of_ble_eq_true rfl) (Nat.le_of_ble_eq_true rfl) (by decide) (fun _ => rfl) (by omega) (zD138_ok (by omega) v6 v1 v5 μ hT) (fun m31 T32 => ?_)
  refine zK_op rfl rfl ?_
  exact zD134_170_ok hd hc7 v1 v2 _ _ _ _ _ m31 T32
theorem zD134_102_ok {μ0 : xe_Mem} {δ : xe_Dy} {d : Nat} (hd : 2 ≤ d) {c86 : Int32 → Int32 → Int32 → Int32 → xe_Mem → zO} (hc86 : ∀ (v1 : Int32) (v2 : Int32) (v5 : Int32) (v6 : Int32) (l3 : Option Value) (l4 : Option Value) (l7 : Option Value) (μ : xe_Mem), zT zPr μ0 μ → zK zPr μ0 δ d 134 86 [some (.ref 203), some (.int v1), some (.int v2), l3, l4, some (.int v5), some (.int v6), l7, none] [] μ (c86 v1 v2 v5 v6 μ)) : ∀ (v1 : Int32) (v2 : Int32) (v5 : Int32) (v6 : Int32) (l3 : Option Value) (l4 : Option Value) (l7 : Option Value) (μ : xe_Mem), zT zPr μ0 μ → zK zPr μ0 δ d 134 102 [some (.ref 203), some (.int v1), some (.int v2), l3, l4, some (.int v5), some (.int v6), l7, none] [] μ (zD134_102  c86 v1 v2 v5 v6 μ) := by
  intro v1 v2 v5 v6 l3 l4 l7 μ hT
  unfold zD134_102
  refine zK_op rfl rfl ?_
  refine zK_op rfl rfl ?_
  exact hc86 (v1 + (1)) v2 v5 v6 _ _ _ μ hT
theorem zD134_86_bok {μ0 : xe_Mem} {δ : xe_Dy} {d : Nat} (hd : 2 ≤ d) {c7 : Int32 → Int32 → xe_Mem → zO} (hc7 : ∀ (v1 : Int32) (v2 : Int32) (l3 : Option Value) (l4 : Option Value) (l5 : Option Value) (l6 : Option Value) (l7 : Option Value) (μ : xe_Mem), zT zPr μ0 μ → zK zPr μ0 δ d 134 7 [some (.ref 203), some (.int v1), some (.int v2), l3, l4, l5, l6, l7, none] [] μ (c7 v1 v2 μ)) {c86 : Int32 → Int32 → Int32 → Int32 → xe_Mem → zO} (hc86 : ∀ (v1 : Int32) (v2 : Int32) (v5 : Int32) (v6 : Int32) (l3 : Option Value) (l4 : Option Value) (l7 : Option Value) (μ : xe_Mem), zT zPr μ0 μ → zK zPr μ0 δ d 134 86 [some (.ref 203), some (.int v1), some (.int v2), l3, l4, some (.int v5), some (.int v6), l7, none] [] μ (c86 v1 v2 v5 v6 μ)) : ∀ (v1 : Int32) (v2 : Int32) (v5 : Int32) (v6 : Int32) (l3 : Option Value) (l4 : Option Value) (l7 : Option Value) (μ : xe_Mem), zT zPr μ0 μ → zK zPr μ0 δ d 134 86 [some (.ref 203), some (.int v1), some (.int v2), l3, l4, some (.int v5), some (.int v6), l7, none] [] μ (zD134_86_b  c7 c86 v1 v2 v5 v6 μ) := by
  intro v1 v2 v5 v6 l3 l4 l7 μ hT
  unfold zD134_86_b
  refine zK_op rfl rfl ?_
  refine zK_op rfl rfl ?_
  refine zK_gI rfl rfl hT ?_
  refine zK_icge rfl (fun _ => ?_) (fun _ => ?_)
  · exact zD134_104_ok hd hc7 v1 v2 v5 v6 _ _ _ μ hT
  refine zK_op rfl rfl ?_
  refine zK_gRl (b := 205) rfl rfl rfl hT ?_
  refine zK_op rfl rfl ?_
  refine zK_x (fun j33 h34 h35 h36 => ?_)
  refine zK_aI rfl rfl hT h34 h35 h36 ?_
  refine zK_cI rfl (as := [.int (xe_I μ 205 j33)]) (rest := []) rfl rfl rfl (Nat.le_of_ble_eq_true rfl) (Nat.le_of_ble_eq_true rfl) (by decide) (fun _ => rfl) (by omega) (zD136_ok (by omega) (xe_I μ 205 j33) μ hT) (fun x39 m37 T38 => ?_)
  refine zK_ifne rfl (fun _ => ?_) (fun _ => ?_)
  · refine zK_op rfl rfl ?_
    refine zK_gRl (b := 205) rfl rfl rfl T38 ?_
    refine zK_op rfl rfl ?_
    refine zK_x (fun j40 h41 h42 h43 => ?_)
    refine zK_aI rfl rfl T38 h41 h42 h43 ?_
    refine zK_cI rfl (as := [.int (xe_I m37 205 j40)]) (rest := []) rfl rfl rfl (Nat.le_of_ble_eq_true rfl) (Nat.le_of_ble_eq_true rfl) (by decide) (fun _ => rfl) (by omega) (zD137_ok (by omega) (xe_I m37 205 j40) m37 T38) (fun x46 m44 T45 => ?_)
    refine zK_ifeq rfl (fun _ => ?_) (fun _ => ?_)
    · exact zD134_104_ok hd hc7 v1 v2 v5 v6 _ _ _ m44 T45
    exact zD134_102_ok hd hc86 v1 v2 v5 v6 _ _ _ m44 T45
  exact zD134_102_ok hd hc86 v1 v2 v5 v6 _ _ _ m37 T38
theorem zD134_86_ok {μ0 : xe_Mem} {δ : xe_Dy} {d : Nat} (hd : 2 ≤ d) {c7 : Int32 → Int32 → xe_Mem → zO} (hc7 : ∀ (v1 : Int32) (v2 : Int32) (l3 : Option Value) (l4 : Option Value) (l5 : Option Value) (l6 : Option Value) (l7 : Option Value) (μ : xe_Mem), zT zPr μ0 μ → zK zPr μ0 δ d 134 7 [some (.ref 203), some (.int v1), some (.int v2), l3, l4, l5, l6, l7, none] [] μ (c7 v1 v2 μ)) : ∀ n : Nat, ∀ (v1 : Int32) (v2 : Int32) (v5 : Int32) (v6 : Int32) (l3 : Option Value) (l4 : Option Value) (l7 : Option Value) (μ : xe_Mem), zT zPr μ0 μ → zK zPr μ0 δ d 134 86 [some (.ref 203), some (.int v1), some (.int v2), l3, l4, some (.int v5), some (.int v6), l7, none] [] μ (zD134_86  c7 n v1 v2 v5 v6 μ) := by
  intro n
  induction n with
  | zero => exact fun _ _ _ _ _ _ _ _ _  => fun o μ' h => by cases h
  | succ n ih => exact zD134_86_bok hd  hc7 ih
theorem zD134_70_ok {μ0 : xe_Mem} {δ : xe_Dy} {d : Nat} (hd : 2 ≤ d) {c7 : Int32 → Int32 → xe_Mem → zO} (hc7 : ∀ (v1 : Int32) (v2 : Int32) (l3 : Option Value) (l4 : Option Value) (l5 : Option Value) (l6 : Option Value) (l7 : Option Value) (μ : xe_Mem), zT zPr μ0 μ → zK zPr μ0 δ d 134 7 [some (.ref 203), some (.int v1), some (.int v2), l3, l4, l5, l6, l7, none] [] μ (c7 v1 v2 μ)) : ∀ (v1 : Int32) (v2 : Int32) (v4 : Int32) (s0 : Int32) (l3 : Option Value) (l5 : Option Value) (l6 : Option Value) (l7 : Option Value) (μ : xe_Mem), zT zPr μ0 μ → zK zPr μ0 δ d 134 70 [some (.ref 203), some (.int v1), some (.int v2), l3, some (.int v4), l5, l6, l7, none] [.int s0] μ (zD134_70  c7 v1 v2 v4 s0 μ) := by
  intro v1 v2 v4 s0 l3 l5 l6 l7 μ hT
  unfold zD134_70
  refine zK_op rfl rfl ?_
  refine zK_op rfl rfl ?_
  refine zK_op rfl rfl ?_
  refine zK_op rfl rfl ?_
  refine zK_ifge rfl (fun _ => ?_) (fun _ => ?_)
  · refine zK_op rfl rfl ?_
    refine zK_cI rfl (as := [.int v4]) (rest := []) rfl rfl rfl (Nat.le_of_ble_eq_true rfl) (Nat.le_of_ble_eq_true rfl) (by decide) (fun _ => rfl) (by omega) (zD136_ok (by omega) v4 μ hT) (fun x5 m3 T4 => ?_)
    refine zK_ifeq rfl (fun _ => ?_) (fun _ => ?_)
    · refine zK_op rfl rfl ?_
      refine zK_cI rfl (as := [.int v4]) (rest := []) rfl rfl rfl (Nat.le_of_ble_eq_true rfl) (Nat.le_of_ble_eq_true rfl) (by decide) (fun _ => rfl) (by omega) (zD137_ok (by omega) v4 m3 T4) (fun x8 m6 T7 => ?_)
      refine zK_ifeq rfl (fun _ => ?_) (fun _ => ?_)
      · refine zK_op rfl rfl ?_
        refine zK_op rfl rfl ?_
        refine zK_op rfl rfl ?_
        refine zK_cI rfl (as := [.int v4]) (rest := [.ref 203]) rfl rfl rfl (Nat.le_of_ble_eq_true rfl) (Nat.le_of_ble_eq_true rfl) (by decide) (fun _ => rfl) (by omega) (zD139_ok (by omega) v4 m6 T7) (fun x11 m9 T10 => ?_)
        refine zK_ifeq rfl (fun _ => ?_) (fun _ => ?_)
        · refine zK_op rfl rfl ?_
          exact zD134_166_ok hd hc7 (v1 + (1)) v2 v4 v1 5 _ _ _ m9 T10
        refine zK_op rfl rfl ?_
        refine zK_op rfl rfl ?_
        exact zD134_166_ok hd hc7 (v1 + (1)) v2 v4 v1 3 _ _ _ m9 T10
      refine zK_op rfl rfl ?_
      refine zK_op rfl rfl ?_
      exact zD134_115_ok hd hc7 zfu v1 v2 v1 0 _ _ _ m6 T7
    exact zD134_86_ok hd hc7 zfu v1 v2 s0 v1 _ _ _ m3 T4
  refine zK_op rfl rfl ?_
  refine zK_op rfl rfl ?_
  refine zK_op rfl rfl ?_
  refine zK_op rfl rfl ?_
  refine zK_cV rfl (as := [.ref 203, .int 0, .int v1, .long 0]) (rest := []) rfl rfl (xe_rcvO (zT_sh hT rfl)) (Nat.le_of_ble_eq_true rfl) (Nat.le_of_ble_eq_true rfl) (by decide) (fun _ => rfl) (by omega) (zD135_ok (by omega) 0 v1 0 μ hT) (fun m47 T48 => ?_)
  refine zK_op rfl rfl ?_
  refine zK_op rfl rfl ?_
  refine zK_op rfl rfl ?_
  exact zD134_170_ok hd hc7 v1 0 _ _ _ _ _ m47 T48
theorem zD134_69_ok {μ0 : xe_Mem} {δ : xe_Dy} {d : Nat} (hd : 2 ≤ d) {c7 : Int32 → Int32 → xe_Mem → zO} (hc7 : ∀ (v1 : Int32) (v2 : Int32) (l3 : Option Value) (l4 : Option Value) (l5 : Option Value) (l6 : Option Value) (l7 : Option Value) (μ : xe_Mem), zT zPr μ0 μ → zK zPr μ0 δ d 134 7 [some (.ref 203), some (.int v1), some (.int v2), l3, l4, l5, l6, l7, none] [] μ (c7 v1 v2 μ)) : ∀ (v1 : Int32) (v2 : Int32) (v4 : Int32) (l3 : Option Value) (l5 : Option Value) (l6 : Option Value) (l7 : Option Value) (μ : xe_Mem), zT zPr μ0 μ → zK zPr μ0 δ d 134 69 [some (.ref 203), some (.int v1), some (.int v2), l3, some (.int v4), l5, l6, l7, none] [] μ (zD134_69  c7 v1 v2 v4 μ) := by
  intro v1 v2 v4 l3 l5 l6 l7 μ hT
  unfold zD134_69
  refine zK_op rfl rfl ?_
  exact zD134_70_ok hd hc7 v1 v2 v4 0 _ _ _ _ μ hT
theorem zD134_51_ok {μ0 : xe_Mem} {δ : xe_Dy} {d : Nat} (hd : 2 ≤ d) {c7 : Int32 → Int32 → xe_Mem → zO} (hc7 : ∀ (v1 : Int32) (v2 : Int32) (l3 : Option Value) (l4 : Option Value) (l5 : Option Value) (l6 : Option Value) (l7 : Option Value) (μ : xe_Mem), zT zPr μ0 μ → zK zPr μ0 δ d 134 7 [some (.ref 203), some (.int v1), some (.int v2), l3, l4, l5, l6, l7, none] [] μ (c7 v1 v2 μ)) : ∀ (v1 : Int32) (v2 : Int32) (v3 : Int32) (s0 : Int32) (l4 : Option Value) (l5 : Option Value) (l6 : Option Value) (l7 : Option Value) (μ : xe_Mem), zT zPr μ0 μ → zK zPr μ0 δ d 134 51 [some (.ref 203), some (.int v1), some (.int v2), some (.int v3), l4, l5, l6, l7, none] [.int s0] μ (zD134_51  c7 v1 v2 v3 s0 μ) := by
  intro v1 v2 v3 s0 l4 l5 l6 l7 μ hT
  unfold zD134_51
  refine zK_op rfl rfl ?_
  refine zK_op rfl rfl ?_
  refine zK_op rfl rfl ?_
  refine zK_icne rfl (fun _ => ?_) (fun _ => ?_)
  · refine zK_op rfl rfl ?_
    refine zK_gI rfl rfl hT ?_
    refine zK_ifle rfl (fun _ => ?_) (fun _ => ?_)
    · exact zD134_69_ok hd hc7 v1 v2 s0 _ _ _ _ μ hT
    refine zK_op rfl rfl ?_
    refine zK_gRl (b := 207) rfl rfl rfl hT ?_
    refine zK_op rfl rfl ?_
    refine zK_gI rfl rfl hT ?_
    refine zK_op rfl rfl ?_
    refine zK_op rfl rfl ?_
    refine zK_x (fun j49 h50 h51 h52 => ?_)
    refine zK_aI rfl rfl hT h50 h51 h52 ?_
    refine zK_op rfl rfl ?_
    refine zK_icne rfl (fun _ => ?_) (fun _ => ?_)
    · refine zK_op rfl rfl ?_
      refine zK_op rfl rfl ?_
      exact zD134_70_ok hd hc7 v1 v2 s0 1 _ _ _ _ μ hT
    exact zD134_69_ok hd hc7 v1 v2 s0 _ _ _ _ μ hT
  exact zD134_69_ok hd hc7 v1 v2 s0 _ _ _ _ μ hT
theorem zD134_41_ok {μ0 : xe_Mem} {δ : xe_Dy} {d : Nat} (hd : 2 ≤ d) {c7 : Int32 → Int32 → xe_Mem → zO} (hc7 : ∀ (v1 : Int32) (v2 : Int32) (l3 : Option Value) (l4 : Option Value) (l5 : Option Value) (l6 : Option Value) (l7 : Option Value) (μ : xe_Mem), zT zPr μ0 μ → zK zPr μ0 δ d 134 7 [some (.ref 203), some (.int v1), some (.int v2), l3, l4, l5, l6, l7, none] [] μ (c7 v1 v2 μ)) : ∀ (v1 : Int32) (v2 : Int32) (v3 : Int32) (l4 : Option Value) (l5 : Option Value) (l6 : Option Value) (l7 : Option Value) (μ : xe_Mem), zT zPr μ0 μ → zK zPr μ0 δ d 134 41 [some (.ref 203), some (.int v1), some (.int v2), some (.int v3), l4, l5, l6, l7, none] [] μ (zD134_41  c7 v1 v2 v3 μ) := by
  intro v1 v2 v3 l4 l5 l6 l7 μ hT
  unfold zD134_41
  refine zK_op rfl rfl ?_
  refine zK_op rfl rfl ?_
  refine zK_gI rfl rfl hT ?_
  refine zK_icge rfl (fun _ => ?_) (fun _ => ?_)
  · refine zK_op rfl rfl ?_
    exact zD134_51_ok hd hc7 v1 v2 v3 ((-1)) _ _ _ _ μ hT
  refine zK_op rfl rfl ?_
  refine zK_gRl (b := 205) rfl rfl rfl hT ?_
  refine zK_op rfl rfl ?_
  refine zK_x (fun j53 h54 h55 h56 => ?_)
  refine zK_aI rfl rfl hT h54 h55 h56 ?_
  refine zK_op rfl rfl ?_
  exact zD134_51_ok hd hc7 v1 v2 v3 (xe_I μ 205 j53) _ _ _ _ μ hT
theorem zD134_39_ok {μ0 : xe_Mem} {δ : xe_Dy} {d : Nat} (hd : 2 ≤ d) {c11 : Int32 → Int32 → Int32 → xe_Mem → zO} (hc11 : ∀ (v1 : Int32) (v2 : Int32) (v3 : Int32) (l4 : Option Value) (l5 : Option Value) (l6 : Option Value) (l7 : Option Value) (μ : xe_Mem), zT zPr μ0 μ → zK zPr μ0 δ d 134 11 [some (.ref 203), some (.int v1), some (.int v2), some (.int v3), l4, l5, l6, l7, none] [] μ (c11 v1 v2 v3 μ)) : ∀ (v1 : Int32) (v2 : Int32) (v3 : Int32) (l4 : Option Value) (l5 : Option Value) (l6 : Option Value) (l7 : Option Value) (μ : xe_Mem), zT zPr μ0 μ → zK zPr μ0 δ d 134 39 [some (.ref 203), some (.int v1), some (.int v2), some (.int v3), l4, l5, l6, l7, none] [] μ (zD134_39  c11 v1 v2 v3 μ) := by
  intro v1 v2 v3 l4 l5 l6 l7 μ hT
  unfold zD134_39
  refine zK_op rfl rfl ?_
  refine zK_op rfl rfl ?_
  exact hc11 (v1 + (1)) v2 v3 _ _ _ _ μ hT
theorem zD134_11_bok {μ0 : xe_Mem} {δ : xe_Dy} {d : Nat} (hd : 2 ≤ d) {c7 : Int32 → Int32 → xe_Mem → zO} (hc7 : ∀ (v1 : Int32) (v2 : Int32) (l3 : Option Value) (l4 : Option Value) (l5 : Option Value) (l6 : Option Value) (l7 : Option Value) (μ : xe_Mem), zT zPr μ0 μ → zK zPr μ0 δ d 134 7 [some (.ref 203), some (.int v1), some (.int v2), l3, l4, l5, l6, l7, none] [] μ (c7 v1 v2 μ)) {c11 : Int32 → Int32 → Int32 → xe_Mem → zO} (hc11 : ∀ (v1 : Int32) (v2 : Int32) (v3 : Int32) (l4 : Option Value) (l5 : Option Value) (l6 : Option Value) (l7 : Option Value) (μ : xe_Mem), zT zPr μ0 μ → zK zPr μ0 δ d 134 11 [some (.ref 203), some (.int v1), some (.int v2), some (.int v3), l4, l5, l6, l7, none] [] μ (c11 v1 v2 v3 μ)) : ∀ (v1 : Int32) (v2 : Int32) (v3 : Int32) (l4 : Option Value) (l5 : Option Value) (l6 : Option Value) (l7 : Option Value) (μ : xe_Mem), zT zPr μ0 μ → zK zPr μ0 δ d 134 11 [some (.ref 203), some (.int v1), some (.int v2), some (.int v3), l4, l5, l6, l7, none] [] μ (zD134_11_b  c7 c11 v1 v2 v3 μ) := by
  intro v1 v2 v3 l4 l5 l6 l7 μ hT
  unfold zD134_11_b
  refine zK_op rfl rfl ?_
  refine zK_op rfl rfl ?_
  refine zK_gI rfl rfl hT ?_
  refine zK_icge rfl (fun _ => ?_) (fun _ => ?_)
  · exact zD134_41_ok hd hc7 v1 v2 v3 _ _ _ _ μ hT
  refine zK_op rfl rfl ?_
  refine zK_gRl (b := 205) rfl rfl rfl hT ?_
  refine zK_op rfl rfl ?_
  refine zK_x (fun j57 h58 h59 h60 => ?_)
  refine zK_aI rfl rfl hT h58 h59 h60 ?_
  refine zK_op rfl rfl ?_
  refine zK_iceq rfl (fun _ => ?_) (fun _ => ?_)
  · exact zD134_39_ok hd hc11 v1 v2 v3 _ _ _ _ μ hT
  refine zK_op rfl rfl ?_
  refine zK_gRl (b := 205) rfl rfl rfl hT ?_
  refine zK_op rfl rfl ?_
  refine zK_x (fun j61 h62 h63 h64 => ?_)
  refine zK_aI rfl rfl hT h62 h63 h64 ?_
  refine zK_op rfl rfl ?_
  refine zK_iceq rfl (fun _ => ?_) (fun _ => ?_)
  · exact zD134_39_ok hd hc11 v1 v2 v3 _ _ _ _ μ hT
  refine zK_op rfl rfl ?_
  refine zK_gRl (b := 205) rfl rfl rfl hT ?_
  refine zK_op rfl rfl ?_
  refine zK_x (fun j65 h66 h67 h68 => ?_)
  refine zK_aI rfl rfl hT h66 h67 h68 ?_
  refine zK_op rfl rfl ?_
  refine zK_iceq rfl (fun _ => ?_) (fun _ => ?_)
  · exact zD134_39_ok hd hc11 v1 v2 v3 _ _ _ _ μ hT
  refine zK_op rfl rfl ?_
  refine zK_gRl (b := 205) rfl rfl rfl hT ?_
  refine zK_op rfl rfl ?_
  refine zK_x (fun j69 h70 h71 h72 => ?_)
  refine zK_aI rfl rfl hT h70 h71 h72 ?_
  refine zK_op rfl rfl ?_
  refine zK_icne rfl (fun _ => ?_) (fun _ => ?_)
  · exact zD134_39_ok hd hc11 v1 v2 v3 _ _ _ _ μ hT
  exact zD134_41_ok hd hc7 v1 v2 v3 _ _ _ _ μ hT
theorem zD134_11_ok {μ0 : xe_Mem} {δ : xe_Dy} {d : Nat} (hd : 2 ≤ d) {c7 : Int32 → Int32 → xe_Mem → zO} (hc7 : ∀ (v1 : Int32) (v2 : Int32) (l3 : Option Value) (l4 : Option Value) (l5 : Option Value) (l6 : Option Value) (l7 : Option Value) (μ : xe_Mem), zT zPr μ0 μ → zK zPr μ0 δ d 134 7 [some (.ref 203), some (.int v1), some (.int v2), l3, l4, l5, l6, l7, none] [] μ (c7 v1 v2 μ)) : ∀ n : Nat, ∀ (v1 : Int32) (v2 : Int32) (v3 : Int32) (l4 : Option Value) (l5 : Option Value) (l6 : Option Value) (l7 : Option Value) (μ : xe_Mem), zT zPr μ0 μ → zK zPr μ0 δ d 134 11 [some (.ref 203), some (.int v1), some (.int v2), some (.int v3), l4, l5, l6, l7, none] [] μ (zD134_11  c7 n v1 v2 v3 μ) := by
  intro n
  induction n with
  | zero => exact fun _ _ _ _ _ _ _ _ _  => fun o μ' h => by cases h
  | succ n ih => exact zD134_11_bok hd  hc7 ih
theorem zD134_7_bok {μ0 : xe_Mem} {δ : xe_Dy} {d : Nat} (hd : 2 ≤ d)  {c7 : Int32 → Int32 → xe_Mem → zO} (hc7 : ∀ (v1 : Int32) (v2 : Int32) (l3 : Option Value) (l4 : Option Value) (l5 : Option Value) (l6 : Option Value) (l7 : Option Value) (μ : xe_Mem), zT zPr μ0 μ → zK zPr μ0 δ d 134 7 [some (.ref 203), some (.int v1), some (.int v2), l3, l4, l5, l6, l7, none] [] μ (c7 v1 v2 μ)) : ∀ (v1 : Int32) (v2 : Int32) (l3 : Option Value) (l4 : Option Value) (l5 : Option Value) (l6 : Option Value) (l7 : Option Value) (μ : xe_Mem), zT zPr μ0 μ → zK zPr μ0 δ d 134 7 [some (.ref 203), some (.int v1), some (.int v2), l3, l4, l5, l6, l7, none] [] μ (zD134_7_b  c7 v1 v2 μ) := by
  intro v1 v2 l3 l4 l5 l6 l7 μ hT
  unfold zD134_7_b
  refine zK_op rfl rfl ?_
  refine zK_ifeq rfl (fun _ => ?_) (fun _ => ?_)
  · exact zK_ret0 rfl hT
  refine zK_op rfl rfl ?_
  refine zK_op rfl rfl ?_
  exact zD134_11_ok hd hc7 zfu v1 v2 v1 _ _ _ _ μ hT
theorem zD134_7_ok {μ0 : xe_Mem} {δ : xe_Dy} {d : Nat} (hd : 2 ≤ d)  : ∀ n : Nat, ∀ (v1 : Int32) (v2 : Int32) (l3 : Option Value) (l4 : Option Value) (l5 : Option Value) (l6 : Option Value) (l7 : Option Value) (μ : xe_Mem), zT zPr μ0 μ → zK zPr μ0 δ d 134 7 [some (.ref 203), some (.int v1), some (.int v2), l3, l4, l5, l6, l7, none] [] μ (zD134_7  n v1 v2 μ) := by
  intro n
  induction n with
  | zero => exact fun _ _ _ _ _ _ _ _ _  => fun o μ' h => by cases h
  | succ n ih => exact zD134_7_bok hd   ih
theorem zD134_ok {μ0 : xe_Mem} {δ : xe_Dy} {d : Nat} (hd : 2 ≤ d) (μ : xe_Mem) (hT : zT zPr μ0 μ) : zK zPr μ0 δ d 134 0 (xe_init [.ref 203] (xM_L 134)) [] μ (zD134 μ) := by
  unfold zD134
  show zK zPr μ0 δ d 134 0 [some (.ref 203), none, none, none, none, none, none, none, none] [] μ _
  refine zK_op rfl rfl ?_
  refine zK_op rfl rfl ?_
  refine zK_pI rfl rfl hT rfl (fun m1 T2 => ?_)
  refine zK_op rfl rfl ?_
  refine zK_op rfl rfl ?_
  refine zK_op rfl rfl ?_
  refine zK_op rfl rfl ?_
  exact zD134_7_ok hd zfu 0 1 _ _ _ _ _ m1 T2
/-! 140 LogicalTimesModel.clear()V -/
def zD140   (μ : xe_Mem) : zO := zq_m (xe_setI μ 203 12 0) fun m1 => zq_m (xe_setI m1 203 15 0) fun m3 => zq_m (xe_setI m3 203 17 0) fun m5 => zq_m (xe_setI m5 203 22 0) fun m7 => zq_m (xe_setI m7 203 37 0) fun m9 => zq_m (xe_setI m9 203 43 0) fun m11 => zq_m (xe_setI m11 203 47 0) fun m13 => zq_m (xe_setI m13 203 52 0) fun m15 => zq_m (xe_setI m15 203 70 0) fun m17 => some (.inl none, m17)
theorem zD140_ok {μ0 : xe_Mem} {δ : xe_Dy} {d : Nat} (hd : 0 ≤ d) (μ : xe_Mem) (hT : zT zPr μ0 μ) : zK zPr μ0 δ d 140 0 (xe_init [.ref 203] (xM_L 140)) [] μ (zD140 μ) := by
  unfold zD140
  show zK zPr μ0 δ d 140 0 [some (.ref 203)] [] μ _
  refine zK_op rfl rfl ?_
  refine zK_op rfl rfl ?_
  refine zK_pI rfl rfl hT rfl (fun m1 T2 => ?_)
  refine zK_op rfl rfl ?_
  refine zK_op rfl rfl ?_
  refine zK_pI rfl rfl T2 rfl (fun m3 T4 => ?_)
  refine zK_op rfl rfl ?_
  refine zK_op rfl rfl ?_
  refine zK_pI rfl rfl T4 rfl (fun m5 T6 => ?_)
  refine zK_op rfl rfl ?_
  refine zK_op rfl rfl ?_
  refine zK_pI rfl rfl T6 rfl (fun m7 T8 => ?_)
  refine zK_op rfl rfl ?_
  refine zK_op rfl rfl ?_
  refine zK_pI rfl rfl T8 rfl (fun m9 T10 => ?_)
  refine zK_op rfl rfl ?_
  refine zK_op rfl rfl ?_
  refine zK_pI rfl rfl T10 rfl (fun m11 T12 => ?_)
  refine zK_op rfl rfl ?_
  refine zK_op rfl rfl ?_
  refine zK_pI rfl rfl T12 rfl (fun m13 T14 => ?_)
  refine zK_op rfl rfl ?_
  refine zK_op rfl rfl ?_
  refine zK_pI rfl rfl T14 rfl (fun m15 T16 => ?_)
  refine zK_op rfl rfl ?_
  refine zK_op rfl rfl ?_
  refine zK_pZ rfl rfl (Or.inl rfl) T16 rfl (fun m17 T18 => ?_)
  exact zK_ret0 rfl T18
/-! 141 LogicalTimesModel.isWord(I)Z -/
def zD141_19 (s0 : Int32) (μ : xe_Mem) : zO := zq_z s0 <| some (.inl (some (.int s0)), μ)
def zD141_18 (μ : xe_Mem) : zO := zD141_19 0 μ
def zD141  (a1 : Int32) (μ : xe_Mem) : zO := zq_x (xe_I μ 203 10) 3002 fun j1 => if (xe_I μ 207 j1) = 4 then zq_x (xe_I μ 203 10) 3002 fun j5 => if (lg_cmp (xe_L μ 209 j5) a1.toInt64) = 0 then zD141_19 1 μ else zD141_18 μ else zD141_18 μ
theorem zD141_19_ok {μ0 : xe_Mem} {δ : xe_Dy} {d : Nat} (hd : 0 ≤ d)  : ∀ (s0 : Int32) (l0 : Option Value) (l1 : Option Value) (μ : xe_Mem), zT zPr μ0 μ → zK zPr μ0 δ d 141 19 [l0, l1] [.int s0] μ (zD141_19  s0 μ) := by
  intro s0 l0 l1 μ hT
  unfold zD141_19
  exact zK_ret3z rfl hT
theorem zD141_18_ok {μ0 : xe_Mem} {δ : xe_Dy} {d : Nat} (hd : 0 ≤ d)  : ∀ (l0 : Option Value) (l1 : Option Value) (μ : xe_Mem), zT zPr μ0 μ → zK zPr μ0 δ d 141 18 [l0, l1] [] μ (zD141_18  μ) := by
  intro l0 l1 μ hT
  unfold zD141_18
  refine zK_op rfl rfl ?_
  exact zD141_19_ok hd 0 _ _ μ hT
theorem zD141_ok {μ0 : xe_Mem} {δ : xe_Dy} {d : Nat} (hd : 0 ≤ d) (a1 : Int32) (μ : xe_Mem) (hT : zT zPr μ0 μ) : zK zPr μ0 δ d 141 0 (xe_init [.ref 203, .int a1] (xM_L 141)) [] μ (zD141 a1 μ) := by
  unfold zD141
  show zK zPr μ0 δ d 141 0 [some (.ref 203), some (.int a1)] [] μ _
  refine zK_op rfl rfl ?_
  refine zK_gRl (b := 207) rfl rfl rfl hT ?_
  refine zK_op rfl rfl ?_
  refine zK_gI rfl rfl hT ?_
  refine zK_x (fun j1 h2 h3 h4 => ?_)
  refine zK_aI rfl rfl hT h2 h3 h4 ?_
  refine zK_op rfl rfl ?_
  refine zK_icne rfl (fun _ => ?_) (fun _ => ?_)
  · refine zK_op rfl rfl ?_
    refine zK_gRl (b := 209) rfl rfl rfl hT ?_
    refine zK_op rfl rfl ?_
    refine zK_gI rfl rfl hT ?_
    refine zK_x (fun j5 h6 h7 h8 => ?_)
    refine zK_aL rfl rfl hT h6 h7 h8 ?_
    refine zK_op rfl rfl ?_
    refine zK_op rfl rfl ?_
    refine zK_op rfl rfl ?_
    refine zK_ifne rfl (fun _ => ?_) (fun _ => ?_)
    · refine zK_op rfl rfl ?_
      refine zK_op rfl rfl ?_
      exact zD141_19_ok hd 1 _ _ μ hT
    exact zD141_18_ok hd _ _ μ hT
  exact zD141_18_ok hd _ _ μ hT
/-! 143 LogicalTimesModel.need(Z)Z -/
def zD143_20 (s0 : Int32) (μ : xe_Mem) : zO := zq_z s0 <| some (.inl (some (.int s0)), μ)
def zD143_14 (μ : xe_Mem) : zO := if (xe_I μ 203 11) = 0 then zD143_20 1 μ else zD143_20 0 μ
def zD143_5 (μ : xe_Mem) : zO := if (xe_I μ 203 11) = 0 then zq_m (xe_setI μ 203 10 ((xe_I μ 203 10) + 1)) fun m3 => zD143_14 m3 else zD143_14 μ
def zD143  (a1 : Int32) (μ : xe_Mem) : zO := if a1 = 0 then zq_m (xe_setI μ 203 11 1) fun m1 => zD143_5 m1 else zD143_5 μ
theorem zD143_20_ok {μ0 : xe_Mem} {δ : xe_Dy} {d : Nat} (hd : 0 ≤ d)  : ∀ (s0 : Int32) (l0 : Option Value) (l1 : Option Value) (μ : xe_Mem), zT zPr μ0 μ → zK zPr μ0 δ d 143 20 [l0, l1] [.int s0] μ (zD143_20  s0 μ) := by
  intro s0 l0 l1 μ hT
  unfold zD143_20
  exact zK_ret3z rfl hT
theorem zD143_14_ok {μ0 : xe_Mem} {δ : xe_Dy} {d : Nat} (hd : 0 ≤ d)  : ∀ (l1 : Option Value) (μ : xe_Mem), zT zPr μ0 μ → zK zPr μ0 δ d 143 14 [some (.ref 203), l1] [] μ (zD143_14  μ) := by
  intro l1 μ hT
  unfold zD143_14
  refine zK_op rfl rfl ?_
  refine zK_gI rfl rfl hT ?_
  refine zK_ifne rfl (fun _ => ?_) (fun _ => ?_)
  · refine zK_op rfl rfl ?_
    refine zK_op rfl rfl ?_
    exact zD143_20_ok hd 1 _ _ μ hT
  refine zK_op rfl rfl ?_
  exact zD143_20_ok hd 0 _ _ μ hT
theorem zD143_5_ok {μ0 : xe_Mem} {δ : xe_Dy} {d : Nat} (hd : 0 ≤ d)  : ∀ (l1 : Option Value) (μ : xe_Mem), zT zPr μ0 μ → zK zPr μ0 δ d 143 5 [some (.ref 203), l1] [] μ (zD143_5  μ) := by
  intro l1 μ hT
  unfold zD143_5
  refine zK_op rfl rfl ?_
  refine zK_gI rfl rfl hT ?_
  refine zK_ifne rfl (fun _ => ?_) (fun _ => ?_)
  · refine zK_op rfl rfl ?_
    refine zK_op rfl rfl ?_
    refine zK_gI rfl rfl hT ?_
    refine zK_op rfl rfl ?_
    refine zK_op rfl rfl ?_
    refine zK_pI rfl rfl hT rfl (fun m3 T4 => ?_)
    exact zD143_14_ok hd _ m3 T4
  exact zD143_14_ok hd _ μ hT
theorem zD143_ok {μ0 : xe_Mem} {δ : xe_Dy} {d : Nat} (hd : 0 ≤ d) (a1 : Int32) (μ : xe_Mem) (hT : zT zPr μ0 μ) : zK zPr μ0 δ d 143 0 (xe_init [.ref 203, .int a1] (xM_L 143)) [] μ (zD143 a1 μ) := by
  unfold zD143
  show zK zPr μ0 δ d 143 0 [some (.ref 203), some (.int a1)] [] μ _
  refine zK_op rfl rfl ?_
  refine zK_ifne rfl (fun _ => ?_) (fun _ => ?_)
  · refine zK_op rfl rfl ?_
    refine zK_op rfl rfl ?_
    refine zK_pZ rfl rfl (Or.inr rfl) hT rfl (fun m1 T2 => ?_)
    exact zD143_5_ok hd _ m1 T2
  exact zD143_5_ok hd _ μ hT
